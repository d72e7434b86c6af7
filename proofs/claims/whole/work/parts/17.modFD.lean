theorem mCopy1_eq (z : Int → Int) (g p : Int) : mCopy1 z g p = zs (zs (zs (zs (zs z g (15 + 5 * p + 0) (zg z g (15 + 5 * (p - 1) + 0))) g (15 + 5 * p + 1) (zg z g (15 + 5 * (p - 1) + 1))) g (15 + 5 * p + 2) (zg z g (15 + 5 * (p - 1) + 2))) g (15 + 5 * p + 3) (zg z g (15 + 5 * (p - 1) + 3))) g (15 + 5 * p + 4) (zg z g (15 + 5 * (p - 1) + 4)) := by
  have e : mCopy1 z g p = (fun k y => zs y g (15 + 5 * p + k) (zg y g (15 + 5 * (p - 1) + k))) 4 ((fun k y => zs y g (15 + 5 * p + k) (zg y g (15 + 5 * (p - 1) + k))) 3 ((fun k y => zs y g (15 + 5 * p + k) (zg y g (15 + 5 * (p - 1) + k))) 2 ((fun k y => zs y g (15 + 5 * p + k) (zg y g (15 + 5 * (p - 1) + k))) 1 ((fun k y => zs y g (15 + 5 * p + k) (zg y g (15 + 5 * (p - 1) + k))) 0 z)))) := rfl
  rw [e]
  dsimp only
  simp (disch := omega) only [zg_zs_ne]
theorem mCopy1_at {z : Int → Int} {g p k : Int} (hk : 0 ≤ k ∧ k < 5) : zg (mCopy1 z g p) g (15 + 5 * p + k) = zg z g (15 + 5 * (p - 1) + k) := by
  rw [mCopy1_eq]
  rcases (show k = 0 ∨ k = 1 ∨ k = 2 ∨ k = 3 ∨ k = 4 by omega) with rfl | rfl | rfl | rfl | rfl <;> simp (disch := omega) only [zg_zs, zg_zs_ne]
theorem mCopy1_ne {z : Int → Int} {g p k : Int} (hk : k < 15 + 5 * p ∨ 15 + 5 * p + 5 ≤ k) : zg (mCopy1 z g p) g k = zg z g k := by
  rw [mCopy1_eq]
  simp (disch := omega) only [zg_zs_ne]
theorem mCopy1_g {z : Int → Int} {g g' p k : Int} (h : g' ≠ g) (hp : 0 ≤ p ∧ p ≤ 8) (hk : 0 ≤ k ∧ k < 60) : zg (mCopy1 z g p) g' k = zg z g' k := by
  rw [mCopy1_eq]
  simp (disch := omega) only [zg_zs_g]
theorem mCopy1_hd {z : Int → Int} {g p j : Int} (hg : 0 ≤ g) (hp : 0 ≤ p) (hj : j < 7) : mCopy1 z g p j = z j := by
  rw [mCopy1_eq]
  simp (disch := omega) only [zs_hd]
theorem mShiftN_lo {g k : Int} (hk : k < 20) : ∀ (n : Nat) (z : Int → Int), zg (mShiftN n z g) g k = zg z g k
  | 0, _ => rfl
  | n + 1, z => by
    show zg (mShiftN n (mCopy1 z g ((n : Int) + 1)) g) g k = zg z g k
    rw [mShiftN_lo hk n, mCopy1_ne (by omega)]
theorem mShiftN_hi {g k : Int} : ∀ (n : Nat) (z : Int → Int), 15 + 5 * ((n : Int) + 1) ≤ k → zg (mShiftN n z g) g k = zg z g k
  | 0, _, _ => rfl
  | n + 1, z, h => by
    show zg (mShiftN n (mCopy1 z g ((n : Int) + 1)) g) g k = zg z g k
    rw [mShiftN_hi n _ (by omega), mCopy1_ne (by omega)]
theorem mShiftN_at {g p k : Int} (hk : 0 ≤ k ∧ k < 5) (hp : 0 ≤ p) : ∀ (n : Nat) (z : Int → Int), p < n → zg (mShiftN n z g) g (15 + 5 * (p + 1) + k) = zg z g (15 + 5 * p + k)
  | 0, _, h => absurd h (by omega)
  | n + 1, z, h => by
    show zg (mShiftN n (mCopy1 z g ((n : Int) + 1)) g) g (15 + 5 * (p + 1) + k) = zg z g (15 + 5 * p + k)
    by_cases e : p = n
    · subst e
      rw [mShiftN_hi n _ (by omega), mCopy1_at hk, show (n : Int) + 1 - 1 = n by omega]
    · rw [mShiftN_at hk hp n _ (by omega), mCopy1_ne (by omega)]
theorem mShiftN_g {g g' k : Int} (h : g' ≠ g) (hk : 0 ≤ k ∧ k < 60) : ∀ (n : Nat) (z : Int → Int), n ≤ 8 → zg (mShiftN n z g) g' k = zg z g' k
  | 0, _, _ => rfl
  | n + 1, z, hn => by
    show zg (mShiftN n (mCopy1 z g ((n : Int) + 1)) g) g' k = zg z g' k
    rw [mShiftN_g h hk n _ (by omega), mCopy1_g h (by omega) hk]
theorem mShiftN_hd {g j : Int} (hg : 0 ≤ g) (hj : j < 7) : ∀ (n : Nat) (z : Int → Int), mShiftN n z g j = z j
  | 0, _ => rfl
  | n + 1, z => by
    show mShiftN n (mCopy1 z g ((n : Int) + 1)) g j = z j
    rw [mShiftN_hd hg hj n, mCopy1_hd hg (by omega) hj]
section
variable {z : Int → Int} {g d : Int}
theorem mNew_eq (z : Int → Int) (g d : Int) : mNew z g d = mk8 (mk7 (mk6 (mk5 (mk4 (mk3 (mk2 (mk1 (mShiftN (zg z g 1).toNat z g)) g) g) g) g d) g) g) g := rfl
theorem mNew_hd {j : Int} (hg : 0 ≤ g) (hj : j < 6) : mNew z g d j = z j := by
  unfold mNew mk8 mk7 mk6 mk5 mk4 mk3 mk2 mk1
  simp (disch := omega) only [zs_hd, iU_ne]
  exact mShiftN_hd hg (by omega) _ _
theorem mNew_6 (hg : 0 ≤ g) : mNew z g d 6 = z 6 + 1 := by
  unfold mNew mk8 mk7 mk6 mk5 mk4 mk3 mk2 mk1
  simp (disch := omega) only [zs_hd, iU_same]
  rw [mShiftN_hd hg (by omega)]
theorem mNew_k {k : Int} (hg : 0 ≤ g) (hk : 0 ≤ k ∧ k < 15 ∧ k ≠ 1 ∧ k ≠ 2) : zg (mNew z g d) g k = zg z g k := by
  unfold mNew mk8 mk7 mk6 mk5 mk4 mk3 mk2 mk1
  simp (disch := omega) only [zg_zs_ne, zg_hd]
  exact mShiftN_lo (by omega) _ _
theorem mNew_1 (hg : 0 ≤ g) : zg (mNew z g d) g 1 = zg z g 1 + 1 := by
  unfold mNew mk8 mk7 mk6 mk5 mk4 mk3 mk2 mk1
  simp (disch := omega) only [zg_zs, zg_zs_ne, zg_hd]
  rw [mShiftN_lo (by omega)]
theorem mNew_2 (hg : 0 ≤ g) : zg (mNew z g d) g 2 = zg z g 2 % 99 + 1 := by
  unfold mNew mk8 mk7 mk6 mk5 mk4 mk3 mk2 mk1
  simp (disch := omega) only [zg_zs, zg_zs_ne, zg_hd]
  rw [mShiftN_lo (by omega)]
theorem mNew_mark (hg : 0 ≤ g) : zg (mNew z g d) g 15 = z 6 + 1 := by
  unfold mNew mk8 mk7 mk6 mk5 mk4 mk3 mk2 mk1
  rw [show (15 : Int) + 5 * 0 + 0 = 15 by omega]
  simp (disch := omega) only [zg_zs, zg_zs_ne, zg_hd, zs_hd, iU_same]
  rw [mShiftN_hd hg (by omega)]
theorem mNew_num (hg : 0 ≤ g) : zg (mNew z g d) g 16 = zg z g 2 % 99 + 1 := by
  unfold mNew mk8 mk7 mk6 mk5 mk4 mk3 mk2 mk1
  rw [show (15 : Int) + 5 * 0 + 1 = 16 by omega]
  simp (disch := omega) only [zg_zs, zg_zs_ne, zg_hd]
  rw [mShiftN_lo (by omega)]
theorem mNew_data (hg : 0 ≤ g) : zg (mNew z g d) g 17 = d := by
  unfold mNew mk8 mk7 mk6 mk5 mk4 mk3 mk2 mk1
  rw [show (15 : Int) + 5 * 0 + 2 = 17 by omega]
  simp (disch := omega) only [zg_zs, zg_zs_ne]
theorem mNew_read (hg : 0 ≤ g) : zg (mNew z g d) g 18 = 0 := by
  unfold mNew mk8 mk7 mk6 mk5 mk4 mk3 mk2 mk1
  rw [show (15 : Int) + 5 * 0 + 3 = 18 by omega]
  simp (disch := omega) only [zg_zs, zg_zs_ne]
theorem mNew_job (hg : 0 ≤ g) : zg (mNew z g d) g 19 = if z 1 = 1 then z 0 else 0 := by
  unfold mNew mk8 mk7 mk6 mk5 mk4 mk3 mk2 mk1
  rw [show (15 : Int) + 5 * 0 + 4 = 19 by omega]
  simp (disch := omega) only [zg_zs, zg_zs_ne, zs_hd, iU_ne]
  rw [mShiftN_hd hg (by omega), mShiftN_hd hg (by omega)]
theorem mNew_old {p k : Int} (hg : 0 ≤ g) (hp : 0 ≤ p ∧ p < zg z g 1) (hk : 0 ≤ k ∧ k < 5) : zg (mNew z g d) g (15 + 5 * (p + 1) + k) = zg z g (15 + 5 * p + k) := by
  unfold mNew mk8 mk7 mk6 mk5 mk4 mk3 mk2 mk1
  simp (disch := omega) only [zg_zs_ne, zg_hd]
  exact mShiftN_at hk hp.1 _ _ (by omega)
theorem mNew_g {g' k : Int} (hg : 0 ≤ g) (h : g' ≠ g) (hg' : 0 ≤ g') (hk : 0 ≤ k ∧ k < 60) (hm : zg z g 1 ≤ 8) : zg (mNew z g d) g' k = zg z g' k := by
  unfold mNew mk8 mk7 mk6 mk5 mk4 mk3 mk2 mk1
  simp (disch := omega) only [zg_zs_g, zg_hd]
  exact mShiftN_g h hk _ _ (by omega)
/-- a place of a group, and a kind -/
theorem split5 {k : Int} (h : 15 ≤ k ∧ k < 60) : ∃ p j : Int, k = 15 + 5 * p + j ∧ 0 ≤ p ∧ p ≤ 8 ∧ 0 ≤ j ∧ j < 5 := ⟨(k - 15) / 5, (k - 15) % 5, by omega, by omega, by omega, by omega, by omega⟩
theorem mNew_rest {k : Int} (hg : 0 ≤ g) (hm : 0 ≤ zg z g 1) (hk : 15 + 5 * (zg z g 1 + 1) ≤ k) : zg (mNew z g d) g k = zg z g k := by
  unfold mNew mk8 mk7 mk6 mk5 mk4 mk3 mk2 mk1
  simp (disch := omega) only [zg_zs_ne, zg_hd]
  exact mShiftN_hi _ _ (by omega)
theorem CZ_mNew (hz : CZ z) (hg : 0 ≤ g ∧ g ≤ 5) (hm : 0 ≤ zg z g 1 ∧ zg z g 1 ≤ 8) (hd : rg d) (h6 : rg (z 6 + 1)) (h2 : 0 ≤ zg z g 2 ∧ zg z g 2 ≤ 99) : CZ (mNew z g d) := by
  intro g' k hk
  by_cases e : g' = g
  · subst e
    by_cases h15 : k < 15
    · by_cases k1 : k = 1
      · rw [k1, mNew_1 hg.1]; omega
      · by_cases k2 : k = 2
        · rw [k2, mNew_2 hg.1]; omega
        · rw [mNew_k hg.1 (by omega)]; exact hz _ _ hk
    · obtain ⟨p, j, rfl, hp0, hp8, hj0, hj5⟩ := split5 (k := k) (by omega)
      by_cases p0 : p = 0
      · subst p0
        rcases (show j = 0 ∨ j = 1 ∨ j = 2 by omega) with rfl | rfl | rfl
        · rw [show (15 : Int) + 5 * 0 + 0 = 15 by omega, mNew_mark hg.1]; exact h6
        · rw [show (15 : Int) + 5 * 0 + 1 = 16 by omega, mNew_num hg.1]; omega
        · rw [show (15 : Int) + 5 * 0 + 2 = 17 by omega, mNew_data hg.1]; exact hd
      · by_cases pl : p ≤ zg z g' 1
        · have e1 : 15 + 5 * p + j = 15 + 5 * ((p - 1) + 1) + j := by omega
          rw [e1, mNew_old hg.1 (by omega) (by omega)]
          exact hz _ _ (by omega)
        · rw [mNew_rest hg.1 hm.1 (by omega)]; exact hz _ _ hk
  · rw [mNew_g hg.1 e hk.1 (by omega) hm.2]; exact hz _ _ hk
end
