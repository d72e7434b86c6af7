section
variable {pd : Int → Int} {ty wr st : Int}
theorem wW_ok {b : Int} (h : wW b wr st = -6) (h0 : 0 ≤ st) : wr = -6 ∧ ¬ b = 0 := by
  unfold wW at h
  by_cases e : wr = -6 ∧ b = 0
  · rw [if_pos e] at h; omega
  · rw [if_neg e] at h; omega
theorem dW_ok {lo hi c : Int} (h : dW lo hi c wr st = -6) (h0 : 0 ≤ st) : wr = -6 ∧ lo ≤ c - 48 ∧ c - 48 ≤ hi := by
  obtain ⟨h1, h2⟩ := wW_ok h h0
  exact ⟨h1, zb_of h2⟩
theorem naW_ok (h : naW pd ty wr st = -6) (h0 : 0 ≤ st) : wr = -6 ∧ (Lt pd ty st = 48 ∨ Lt pd ty st = 45 ∨ Lt pd ty st = 43) ∧ -7 ≤ naV pd ty wr st ∧ naV pd ty wr st ≤ 1 := by
  have h1 := wS_rg wr st
  unfold naW at h
  by_cases e : Lt pd ty st = 45
  · rw [if_pos e] at h
    obtain ⟨a, b, c⟩ := dW_ok h (by omega)
    obtain ⟨a1, a2⟩ := wW_ok a h0
    refine ⟨a1, zb_of a2, ?_⟩
    unfold naV
    rw [if_neg (by omega), if_pos e]
    omega
  · rw [if_neg e] at h
    obtain ⟨a1, a2⟩ := wW_ok h h0
    refine ⟨a1, zb_of a2, ?_⟩
    unfold naV
    split
    · omega
    · first | omega | (rw [if_neg e]; omega)
theorem nN_val : ∀ (k : Nat) (v st : Int), 0 ≤ v ∧ v ≤ 9999 → 0 ≤ (nN pd ty k v st).1 ∧ (nN pd ty k v st).1 ≤ 9999
  | 0, v, st, h => h
  | k + 1, v, st, h => by
    by_cases e : 0 < v ∧ 0 ≤ Lt pd ty st - 48 ∧ Lt pd ty st - 48 ≤ 9 ∧ 10 * v + (Lt pd ty st - 48) ≤ 9999
    · rw [nN_step e]
      exact nN_val k _ _ (by omega)
    · rw [nN_stop e]
      exact h
/-- an order that is read without a fault -/
theorem ro_ok (hs : 0 ≤ st ∧ st ≤ 900) (h : roW pd ty (-6) st = -6) (od : Int → Int) {om : Int} (hom : 0 ≤ om) : ordOk (roD pd ty (-6) st od om (4 * om)) (roD pd ty (-6) st od om (4 * om + 1)) (roD pd ty (-6) st od om (4 * om + 2)) (roD pd ty (-6) st od om (4 * om + 3)) := by
  have hq := q_rg (pd := pd) (ty := ty) (wr := -6) hs (by omega)
  unfold roW at h
  unfold ordOk roD
  by_cases e : Lt pd ty st = 119
  · rw [if_pos e] at h
    obtain ⟨a5, b5, b5'⟩ := dW_ok h (by omega)
    obtain ⟨a4, b4⟩ := wW_ok a5 (by omega)
    obtain ⟨a3, b3, b3', b3''⟩ := naW_ok a4 (by omega)
    obtain ⟨a2, b2, b2'⟩ := dW_ok a3 (by omega)
    have hv : 0 ≤ (nR pd ty (q4W pd ty (-6) st) (q4S pd ty (-6) st)).1 ∧ (nR pd ty (q4W pd ty (-6) st) (q4S pd ty (-6) st)).1 ≤ 9999 := by
      have h5 : dW 0 9 (Lt pd ty (q4S pd ty (-6) st)) (q4W pd ty (-6) st) (q4S pd ty (-6) st) = -6 := h
      unfold nR
      rw [if_pos h5]
      exact nN_val 3 _ _ (by omega)
    rw [if_pos e]
    rw [iU_ne (show 4 * om ≠ 4 * om + 3 by omega), iU_ne (show 4 * om + 1 ≠ 4 * om + 3 by omega), iU_ne (show 4 * om + 2 ≠ 4 * om + 3 by omega), iU_same]
    unfold roD3
    rw [iU_ne (show 4 * om ≠ 4 * om + 2 by omega), iU_ne (show 4 * om ≠ 4 * om + 1 by omega), iU_same, iU_ne (show 4 * om + 1 ≠ 4 * om + 2 by omega), iU_same, iU_same]
    omega
  · rw [if_neg e] at h
    rw [if_neg e]
    by_cases e2 : Lt pd ty st = 114 ∨ Lt pd ty st = 100
    · rw [if_pos e2] at h
      obtain ⟨a3, b3, b3', b3''⟩ := naW_ok h (by omega)
      obtain ⟨a2, b2, b2'⟩ := dW_ok a3 (by omega)
      rw [if_pos e2]
      unfold roD3
      rw [iU_ne (show 4 * om ≠ 4 * om + 2 by omega), iU_ne (show 4 * om ≠ 4 * om + 1 by omega), iU_same, iU_ne (show 4 * om + 1 ≠ 4 * om + 2 by omega), iU_same, iU_same]
      omega
    · rw [if_neg e2] at h
      obtain ⟨a1, b1⟩ := wW_ok h hs.1
      have := zb_of b1
      rw [if_neg e2, iU_same]
      omega
theorem roD_old (od : Int → Int) {om j : Int} (h : j < 4 * om) : roD pd ty wr st od om j = od j := by
  unfold roD
  split
  · rw [iU_ne (by omega)]
    unfold roD3
    rw [iU_ne (by omega), iU_ne (by omega), iU_ne (by omega)]
  · split
    · unfold roD3
      rw [iU_ne (by omega), iU_ne (by omega), iU_ne (by omega)]
    · rw [iU_ne (by omega)]
end
def allOk (od : Int → Int) (om : Int) : Prop := ∀ i : Int, 0 ≤ i → i < om → ordOk (od (4 * i)) (od (4 * i + 1)) (od (4 * i + 2)) (od (4 * i + 3))
theorem allOk_step {pd : Int → Int} {ty st om : Int} {od : Int → Int} (h : allOk od om) (hs : 0 ≤ st ∧ st ≤ 900) (hom : 0 ≤ om) (hw : roW pd ty (-6) st = -6) : allOk (roD pd ty (-6) st od om) (om + 1) := by
  intro i h0 h1
  by_cases e : i = om
  · subst e
    exact ro_ok hs hw od hom
  · rw [roD_old od (by omega), roD_old od (by omega), roD_old od (by omega), roD_old od (by omega)]
    exact h i h0 (by omega)
theorem rpN_ok {pd : Int → Int} {ty : Int} (hty : ty ≤ 80) : ∀ (k : Nat) (st om : Int) (od : Int → Int), 0 ≤ st → st ≤ 80 → 0 ≤ om → 2 * om ≤ st → 81 - st ≤ k → allOk od om → (rpN pd ty k st om od).1 = -6 → allOk (rpN pd ty k st om od).2.2.2 (rpN pd ty k st om od).2.2.1 ∧ 0 ≤ (rpN pd ty k st om od).2.2.1 ∧ (rpN pd ty k st om od).2.2.1 ≤ 41
  | 0, st, om, od, h0, h1, h2, h3, h4, _, _ => absurd h4 (by omega)
  | k + 1, st, om, od, h0, h1, h2, h3, h4, ha, hr => by
    have hgt := roS_gt (pd := pd) (ty := ty) (st := st) (by omega)
    by_cases c1 : roW pd ty (-6) st = -6 ∧ roS pd ty (-6) st < ty
    · by_cases c2 : Lt pd ty (roS pd ty (-6) st) = 59
      · rw [rpN_c k c1 c2] at hr ⊢
        exact rpN_ok hty k _ _ _ (by omega) (by omega) (by omega) (by omega) (by omega) (allOk_step ha (by omega) h2 c1.1) hr
      · rw [rpN_b k c1 c2] at hr
        exact absurd hr (by dsimp only; omega)
    · rw [rpN_a k c1] at hr ⊢
      exact ⟨allOk_step ha (by omega) h2 hr, by dsimp only; omega, by dsimp only; omega⟩
theorem rp_ok {pd : Int → Int} {ty : Int} (hty : ty ≤ 80) (od : Int → Int) (h : (rp pd ty od).1 = -6) : allOk (rp pd ty od).2.2.2 (rp pd ty od).2.2.1 ∧ 0 ≤ (rp pd ty od).2.2.1 ∧ (rp pd ty od).2.2.1 ≤ 41 :=
  rpN_ok hty 81 0 0 od (by omega) (by omega) (by omega) (by omega) (by omega) (fun i h0 h1 => absurd h1 (by omega)) h
def coR (z : Int → Int) (od : Int → Int) (om : Int) : (Int → Int) × Int := coN od om om.toNat z 0
theorem rpN_rg {pd : Int → Int} {ty : Int} (hty : ty ≤ 80) : ∀ (k : Nat) (st om : Int) (od : Int → Int), 0 ≤ st → st ≤ 80 → -6 ≤ (rpN pd ty k st om od).1 ∧ (rpN pd ty k st om od).1 ≤ 1000
  | 0, _, _, _, _, _ => ⟨Int.le_refl _, by show (-6 : Int) ≤ 1000; omega⟩
  | k + 1, st, om, od, h0, h1 => by
    have hr := ro_rg (pd := pd) (ty := ty) (wr := -6) (st := st) (by omega) (by omega)
    by_cases c1 : roW pd ty (-6) st = -6 ∧ roS pd ty (-6) st < ty
    · by_cases c2 : Lt pd ty (roS pd ty (-6) st) = 59
      · rw [rpN_c k c1 c2]
        exact rpN_rg hty k _ _ _ (by omega) (by omega)
      · rw [rpN_b k c1 c2]
        dsimp only
        omega
    · rw [rpN_a k c1]
      dsimp only
      omega
theorem rp_rg {pd : Int → Int} {ty : Int} {od : Int → Int} (hty : ty ≤ 80) : -6 ≤ (rp pd ty od).1 ∧ (rp pd ty od).1 ≤ 1000 := rpN_rg hty 81 0 0 od (by omega) (by omega)
