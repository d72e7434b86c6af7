section
variable {z : Int → Int} {g : Int}
theorem mTrim_hd {j : Int} (hg : 0 ≤ g) (hj : j < 7) : mTrim z g j = z j := zs_hd hg (by omega) hj
theorem mTrim_k {k : Int} (hk : k ≠ 1) : zg (mTrim z g) g k = zg z g k := zg_zs_ne hk
theorem mTrim_1 : zg (mTrim z g) g 1 = tr (fun p => zg z g (15 + 5 * p + 2)) (zg z g 1).toNat := zg_zs _ _ _ _
theorem mTrim_le (h : 0 ≤ zg z g 1) : 0 ≤ zg (mTrim z g) g 1 ∧ zg (mTrim z g) g 1 ≤ zg z g 1 := by
  rw [mTrim_1]
  have := tr_le (fun p => zg z g (15 + 5 * p + 2)) (zg z g 1).toNat
  omega
theorem mTrim_g {g' k : Int} (h : g' ≠ g) (hk : 0 ≤ k ∧ k < 60) : zg (mTrim z g) g' k = zg z g' k := zg_zs_g h (by omega) hk
theorem CZ_mTrim (hz : CZ z) (hg : 0 ≤ g ∧ g ≤ 5) (h : 0 ≤ zg z g 1 ∧ zg z g 1 ≤ 9) : CZ (mTrim z g) := by
  have h1 := mTrim_le (z := z) (g := g) h.1
  rw [mTrim_1] at h1
  exact CZ_zs hz hg (by omega) (fun _ => ⟨by omega, by omega⟩)
end
def mRoll1 (z : Int → Int) (g : Int) : Int → Int := zs (zs z g 3 (zg z g 3 + (if zg z g (15 + 5 * (zg z g 1 - 1) + 2) = -6 then 0 else 1))) g 1 (zg z g 1 - 1)
section
variable {g : Int}
theorem mRoll1_k {z : Int → Int} {k : Int} (hk : k ≠ 1 ∧ k ≠ 3) : zg (mRoll1 z g) g k = zg z g k := by
  unfold mRoll1
  rw [zg_zs_ne hk.1, zg_zs_ne hk.2]
theorem mRoll1_1 {z : Int → Int} : zg (mRoll1 z g) g 1 = zg z g 1 - 1 := zg_zs _ _ _ _
theorem mRollN_hd {j : Int} (hg : 0 ≤ g) (hj : j < 7) : ∀ (n : Nat) (z : Int → Int), mRollN n z g j = z j
  | 0, _ => mTrim_hd hg hj
  | n + 1, z => by
    show (if zg z g 0 < zg z g 1 then mRollN n (mRoll1 z g) g else mTrim z g) j = z j
    split
    · rw [mRollN_hd hg hj n]
      unfold mRoll1
      rw [zs_hd hg (by omega) hj, zs_hd hg (by omega) hj]
    · exact mTrim_hd hg hj
theorem mRollN_k {k : Int} (hk : k ≠ 1 ∧ k ≠ 3) : ∀ (n : Nat) (z : Int → Int), zg (mRollN n z g) g k = zg z g k
  | 0, _ => mTrim_k hk.1
  | n + 1, z => by
    show zg (if zg z g 0 < zg z g 1 then mRollN n (mRoll1 z g) g else mTrim z g) g k = zg z g k
    split
    · rw [mRollN_k hk n, mRoll1_k hk]
    · exact mTrim_k hk.1
theorem mRollN_g {g' k : Int} (h : g' ≠ g) (hk : 0 ≤ k ∧ k < 60) : ∀ (n : Nat) (z : Int → Int), zg (mRollN n z g) g' k = zg z g' k
  | 0, _ => mTrim_g h hk
  | n + 1, z => by
    show zg (if zg z g 0 < zg z g 1 then mRollN n (mRoll1 z g) g else mTrim z g) g' k = zg z g' k
    split
    · rw [mRollN_g h hk n]
      unfold mRoll1
      rw [zg_zs_g h (by omega) hk, zg_zs_g h (by omega) hk]
    · exact mTrim_g h hk
theorem mRollN_1 : ∀ (n : Nat) (z : Int → Int), 0 ≤ zg z g 1 → 0 ≤ zg z g 0 → zg z g 1 ≤ zg z g 0 + n → 0 ≤ zg (mRollN n z g) g 1 ∧ zg (mRollN n z g) g 1 ≤ zg z g 1 ∧ zg (mRollN n z g) g 1 ≤ zg z g 0
  | 0, z, h, _, h2 => by
    have := mTrim_le (z := z) (g := g) h
    show 0 ≤ zg (mTrim z g) g 1 ∧ zg (mTrim z g) g 1 ≤ zg z g 1 ∧ zg (mTrim z g) g 1 ≤ zg z g 0
    omega
  | n + 1, z, h, h0, h2 => by
    show 0 ≤ zg (if zg z g 0 < zg z g 1 then mRollN n (mRoll1 z g) g else mTrim z g) g 1 ∧ zg (if zg z g 0 < zg z g 1 then mRollN n (mRoll1 z g) g else mTrim z g) g 1 ≤ zg z g 1 ∧ zg (if zg z g 0 < zg z g 1 then mRollN n (mRoll1 z g) g else mTrim z g) g 1 ≤ zg z g 0
    split
    · have h1 := mRollN_1 n (mRoll1 z g) (by rw [mRoll1_1]; omega) (by rw [mRoll1_k (by omega)]; omega) (by rw [mRoll1_1, mRoll1_k (by omega)]; omega)
      rw [mRoll1_1, mRoll1_k (by omega)] at h1
      omega
    · have := mTrim_le (z := z) (g := g) h
      omega
theorem CZ_mRollN (hg : 0 ≤ g ∧ g ≤ 5) : ∀ (n : Nat) (z : Int → Int), CZ z → 0 ≤ zg z g 1 ∧ zg z g 1 ≤ 9 → 0 ≤ zg z g 0 → CZ (mRollN n z g)
  | 0, _, hz, h, _ => CZ_mTrim hz hg h
  | n + 1, z, hz, h, h0 => by
    show CZ (if zg z g 0 < zg z g 1 then mRollN n (mRoll1 z g) g else mTrim z g)
    split
    · refine CZ_mRollN hg n _ ?_ (by rw [mRoll1_1]; omega) (by rw [mRoll1_k (by omega)]; omega)
      exact CZ_zs (CZ_zs hz hg (by omega) (fun q => absurd q (by omega))) hg (by omega) (fun _ => ⟨by omega, by omega⟩)
    · exact CZ_mTrim hz hg h
end
section
variable {z : Int → Int} {g d : Int}
theorem mMake_hd {j : Int} (hg : 0 ≤ g) (hj : j < 6) : mMake z g d j = z j := by
  unfold mMake mRoll
  rw [mRollN_hd hg (by omega), mNew_hd hg hj]
theorem mMake_6 (hg : 0 ≤ g) : mMake z g d 6 = z 6 + 1 := by
  unfold mMake mRoll
  rw [mRollN_hd hg (by omega), mNew_6 hg]
theorem mDel_hd {p j : Int} (hg : 0 ≤ g) (hp : 0 ≤ p) (hj : j < 7) : mDel z g p j = z j := by
  unfold mDel
  rw [mTrim_hd hg hj, zs_hd hg (by omega) hj, zs_hd hg (by omega) hj]
theorem mDel_le {p : Int} (h : 0 ≤ zg z g 1) (hp : 0 ≤ p) : 0 ≤ zg (mDel z g p) g 1 ∧ zg (mDel z g p) g 1 ≤ zg z g 1 := by
  unfold mDel
  have e : zg (zs (zs z g (15 + 5 * p + 2) (-6)) g 4 (zg z g 4 + 1)) g 1 = zg z g 1 := by rw [zg_zs_ne (by omega), zg_zs_ne (by omega)]
  have := mTrim_le (z := zs (zs z g (15 + 5 * p + 2) (-6)) g 4 (zg z g 4 + 1)) (g := g) (by rw [e]; exact h)
  rw [e] at this
  exact this
theorem mDel_k {p k : Int} (hk : k ≠ 1 ∧ k ≠ 4 ∧ k ≠ 15 + 5 * p + 2) : zg (mDel z g p) g k = zg z g k := by
  unfold mDel
  rw [mTrim_k hk.1, zg_zs_ne hk.2.1, zg_zs_ne hk.2.2]
theorem mDel_g {p g' k : Int} (h : g' ≠ g) (hp : 0 ≤ p ∧ p ≤ 8) (hk : 0 ≤ k ∧ k < 60) : zg (mDel z g p) g' k = zg z g' k := by
  unfold mDel
  rw [mTrim_g h hk, zg_zs_g h (by omega) hk, zg_zs_g h (by omega) hk]
theorem CZ_mDel {p : Int} (hz : CZ z) (hg : 0 ≤ g ∧ g ≤ 5) (h : 0 ≤ zg z g 1 ∧ zg z g 1 ≤ 8) (hp : 0 ≤ p ∧ p ≤ 8) : CZ (mDel z g p) := by
  unfold mDel
  refine CZ_mTrim ?_ hg (by rw [zg_zs_ne (by omega), zg_zs_ne (by omega)]; omega)
  exact CZ_zs (CZ_zs hz hg (by omega) (fun _ => ⟨by omega, by omega⟩)) hg (by omega) (fun q => absurd q (by omega))
end
def AG (z : Int → Int) : Prop := ∀ g : Int, 0 ≤ g → g ≤ 5 → 0 ≤ zg z g 1 ∧ zg z g 1 ≤ 8
theorem AG_mDel {z : Int → Int} {g p : Int} (h : AG z) (hg : 0 ≤ g ∧ g ≤ 5) (hp : 0 ≤ p ∧ p ≤ 8) : AG (mDel z g p) := by
  intro g' h1 h2
  by_cases e : g' = g
  · subst e
    have := mDel_le (z := z) (g := g') (p := p) (h _ h1 h2).1 hp.1
    have := h _ h1 h2
    omega
  · rw [mDel_g e hp (by omega)]
    exact h _ h1 h2
def mWrite (z : Int → Int) (g n d : Int) : Int → Int := if n = 1 ∧ (¬ z 1 = 1 ∨ zg z g 5 = 0) then (if (mMake z g d) 1 = 1 then zs (mMake z g d) g 5 ((mMake z g d) 6) else mMake z g d) else zs z g (15 + 5 * (mTold z g n) + 2) d
def mWriteR (z : Int → Int) (g n d : Int) : Int := if n = 1 ∧ (¬ z 1 = 1 ∨ zg z g 5 = 0) then zg (mWrite z g n d) g 2 else zg (mWrite z g n d) g (15 + 5 * (mTold z g n) + 1)
def mR1 (z : Int → Int) : Int → Int := iU z 4 (z 4 + 1)
def mRead (z : Int → Int) (g n : Int) : Int → Int := if mTold (mR1 z) g n = -6 then iU (mR1 z) 5 ((mR1 z) 5 + 1) else zs (mR1 z) g (15 + 5 * (mTold (mR1 z) g n) + 3) (zg (mR1 z) g (15 + 5 * (mTold (mR1 z) g n) + 3) + 1)
def mReadR (z : Int → Int) (g n : Int) : Int := if mTold (mR1 z) g n = -6 then -6 else zg (mRead z g n) g (15 + 5 * (mTold (mR1 z) g n) + 2)
def MI (z : Int → Int) : Prop := CZ z ∧ (∀ g : Int, 0 ≤ g → g ≤ 5 → (0 ≤ zg z g 1 ∧ zg z g 1 ≤ 8) ∧ (1 ≤ zg z g 0 ∧ zg z g 0 ≤ 8) ∧ (0 ≤ zg z g 2 ∧ zg z g 2 ≤ 99)) ∧ (z 1 = 0 ∨ z 1 = 1) ∧ (z 2 = 0 ∨ z 2 = 1) ∧ 0 ≤ z 6 ∧ z 6 < 2000000000
theorem MI.ag {z : Int → Int} (h : MI z) : AG z := fun g h1 h2 => (h.2.1 g h1 h2).1
