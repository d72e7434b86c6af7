-- what every state of the model keeps
def GI (z : Int → Int) : Prop := ∀ g : Int, 0 ≤ g → g ≤ 5 → (0 ≤ zg z g 1 ∧ zg z g 1 ≤ 8) ∧ (1 ≤ zg z g 0 ∧ zg z g 0 ≤ 8) ∧ (0 ≤ zg z g 2 ∧ zg z g 2 ≤ 99)
def MIb (B : Int) (z : Int → Int) : Prop := CZ z ∧ GI z ∧ (z 1 = 0 ∨ z 1 = 1) ∧ (z 2 = 0 ∨ z 2 = 1) ∧ 0 ≤ z 6 ∧ z 6 ≤ B
theorem MIb.mi {B : Int} {z : Int → Int} (h : MIb B z) (hB : B < 2000000000) : MI z := ⟨h.1, h.2.1, h.2.2.1, h.2.2.2.1, h.2.2.2.2.1, by have := h.2.2.2.2.2; omega⟩
theorem MIb.le {B C : Int} {z : Int → Int} (h : MIb B z) (hB : B ≤ C) : MIb C z := ⟨h.1, h.2.1, h.2.2.1, h.2.2.2.1, h.2.2.2.2.1, by have := h.2.2.2.2.2; omega⟩
theorem GI_one {z z' : Int → Int} {g : Int} (h : GI z) (hO : ∀ g' k : Int, g' ≠ g → 0 ≤ g' → 0 ≤ k ∧ k < 60 → zg z' g' k = zg z g' k) (h1 : (0 ≤ zg z' g 1 ∧ zg z' g 1 ≤ 8) ∧ (1 ≤ zg z' g 0 ∧ zg z' g 0 ≤ 8) ∧ (0 ≤ zg z' g 2 ∧ zg z' g 2 ≤ 99)) : GI z' := by
  intro g' a b
  by_cases e : g' = g
  · subst e; exact h1
  · rw [hO g' 1 e a (by omega), hO g' 0 e a (by omega), hO g' 2 e a (by omega)]
    exact h g' a b
theorem GI_zs {z : Int → Int} {g k v : Int} (h : GI z) (hg : 0 ≤ g ∧ g ≤ 5) (hk : 0 ≤ k ∧ k < 60) (hk2 : k ≠ 0 ∧ k ≠ 1 ∧ k ≠ 2) : GI (zs z g k v) := by
  refine GI_one h (fun g' k' e a hk' => zg_zs_g e hk hk') ?_
  rw [zg_zs_ne (by omega), zg_zs_ne (by omega), zg_zs_ne (by omega)]
  exact h g hg.1 hg.2
theorem GI_hd {z : Int → Int} {j v : Int} (h : GI z) (hj : j < 7) : GI (iU z j v) := by
  intro g a b
  rw [zg_hd a (by omega) hj, zg_hd a (by omega) hj, zg_hd a (by omega) hj]
  exact h g a b
section
variable {z : Int → Int} {g d B : Int}
theorem mMake_g {g' k : Int} (hg : 0 ≤ g) (h : g' ≠ g) (hg' : 0 ≤ g') (hk : 0 ≤ k ∧ k < 60) (hm : zg z g 1 ≤ 8) : zg (mMake z g d) g' k = zg z g' k := by
  unfold mMake mRoll
  rw [mRollN_g h hk, mNew_g hg h hg' hk hm]
theorem mMake_k {k : Int} (hk : k ≠ 1 ∧ k ≠ 3) : zg (mMake z g d) g k = zg (mNew z g d) g k := mRollN_k hk _ _
theorem mMake_1 (hg : 0 ≤ g) (h1 : 0 ≤ zg z g 1 ∧ zg z g 1 ≤ 8) (h0 : 1 ≤ zg z g 0) : 0 ≤ zg (mMake z g d) g 1 ∧ zg (mMake z g d) g 1 ≤ zg z g 0 := by
  have e1 := mNew_1 (z := z) (d := d) hg
  have e0 := mNew_k (z := z) (d := d) (k := 0) hg (by omega)
  have := mRollN_1 (g := g) 9 (mNew z g d) (by omega) (by omega) (by omega)
  unfold mMake mRoll
  omega
theorem MIb_mMake (h : MIb B z) (hB : B < 1999999999) (hg : 0 ≤ g ∧ g ≤ 5) (hd : 0 ≤ d ∧ d ≤ 9999) : MIb (B + 1) (mMake z g d) := by
  obtain ⟨hz, hgi, h1, h2, h6, h7⟩ := h
  have hgg := hgi g hg.1 hg.2
  have hhd := fun (j : Int) (hj : j < 6) => mMake_hd (z := z) (g := g) (d := d) hg.1 hj
  have h66 := mMake_6 (z := z) (g := g) (d := d) hg.1
  refine ⟨?_, ?_, by rw [hhd 1 (by omega)]; exact h1, by rw [hhd 2 (by omega)]; exact h2, by omega, by omega⟩
  · unfold mMake mRoll
    exact CZ_mRollN hg 9 _ (CZ_mNew hz hg hgg.1 ⟨by omega, by omega⟩ ⟨by omega, by omega⟩ hgg.2.2) (by rw [mNew_1 hg.1]; omega) (by rw [mNew_k hg.1 (by omega)]; omega)
  · refine GI_one hgi (fun g' k e a hk => mMake_g hg.1 e a hk hgg.1.2) ?_
    have a1 := mMake_1 (d := d) hg.1 hgg.1 hgg.2.1.1
    rw [mMake_k (k := 0) (by omega), mNew_k hg.1 (by omega), mMake_k (k := 2) (by omega), mNew_2 hg.1]
    omega
theorem MIb_zs {k v : Int} (h : MIb B z) (hg : 0 ≤ g ∧ g ≤ 5) (hk : 0 ≤ k ∧ k < 60) (hk2 : k ≠ 0 ∧ k ≠ 1 ∧ k ≠ 2) (hv : k ≠ 3 ∧ k ≠ 4 ∧ (k < 15 ∨ (k - 15) % 5 < 3) → rg v) : MIb B (zs z g k v) := by
  obtain ⟨hz, hgi, h1, h2, h6, h7⟩ := h
  refine ⟨CZ_zs hz hg hk hv, GI_zs hgi hg hk hk2, ?_, ?_, ?_, ?_⟩ <;> rw [zs_hd hg.1 hk.1 (by omega)] <;> assumption
theorem MIb_mDel {p : Int} (h : MIb B z) (hg : 0 ≤ g ∧ g ≤ 5) (hp : 0 ≤ p ∧ p ≤ 8) : MIb B (mDel z g p) := by
  obtain ⟨hz, hgi, h1, h2, h6, h7⟩ := h
  have hgg := hgi g hg.1 hg.2
  refine ⟨CZ_mDel hz hg hgg.1 hp, GI_one hgi (fun g' k e a hk => mDel_g e hp hk) ?_, ?_, ?_, ?_, ?_⟩
  · have := mDel_le (p := p) hgg.1.1 hp.1
    rw [mDel_k (k := 0) (by omega), mDel_k (k := 2) (by omega)]
    omega
  all_goals (rw [mDel_hd hg.1 hp.1 (by omega)]; assumption)
theorem MIb_mWrite {n : Int} (h : MIb B z) (hB : B < 1999999999) (hg : 0 ≤ g ∧ g ≤ 5) (hd : 0 ≤ d ∧ d ≤ 9999) (hw : (n = 1 ∧ (¬ z 1 = 1 ∨ zg z g 5 = 0)) ∨ ¬ mTold z g n = -6) : MIb (B + 1) (mWrite z g n d) := by
  unfold mWrite
  have hgg := h.2.1 g hg.1 hg.2
  split
  · have hm := MIb_mMake h hB hg hd
    split
    · exact MIb_zs hm hg (by omega) (by omega) (fun _ => ⟨by have := hm.2.2.2.2.1; omega, by have := hm.2.2.2.2.2; omega⟩)
    · exact hm
  · rename_i hn
    have ht := mTold_rg (z := z) (g := g) (n := n) hgg.1.1
    exact (MIb_zs h hg (by omega) (by omega) (fun _ => ⟨by omega, by omega⟩)).le (by omega)
theorem MIb_hd {j v : Int} (h : MIb B z) (hj : j < 6 ∧ j ≠ 1 ∧ j ≠ 2) : MIb B (iU z j v) := by
  obtain ⟨hz, hgi, h1, h2, h6, h7⟩ := h
  refine ⟨CZ_hd hz (by omega), GI_hd hgi (by omega), ?_, ?_, ?_, ?_⟩ <;> rw [iU_ne (by omega)] <;> assumption
theorem MIb_mRead {n : Int} (h : MIb B z) (hg : 0 ≤ g ∧ g ≤ 5) : MIb B (mRead z g n) := by
  have h1 : MIb B (mR1 z) := MIb_hd h (by omega)
  unfold mRead
  have hgg := h1.2.1 g hg.1 hg.2
  have ht := mTold_rg (z := mR1 z) (g := g) (n := n) hgg.1.1
  split
  · exact MIb_hd h1 (by omega)
  · exact MIb_zs h1 hg (by omega) (by omega) (fun q => absurd q (by omega))
theorem MIb_mStart (h : MIb B z) : MIb B (mStart z) := by
  have h0 : MIb B (mStart0 z) := by
    obtain ⟨hz, hgi, h1, h2, h6, h7⟩ := h
    refine ⟨CZ_hd (CZ_hd (CZ_hd hz (by omega)) (by omega)) (by omega), GI_hd (GI_hd (GI_hd hgi (by omega)) (by omega)) (by omega), Or.inr rfl, Or.inl rfl, ?_, ?_⟩
    · show 0 ≤ z 6; exact h6
    · show z 6 ≤ B; exact h7
  exact itr_invB (P := fun y => MIb B y) 6 h0 (fun i x a b hx => MIb_zs hx (by omega) (by omega) (by omega) (fun _ => ⟨by omega, by omega⟩)) 6 (Nat.le_refl 6)
theorem MIb_mNames (h : MIb B z) : MIb B (mNames z) :=
  itr_invB (P := fun y => MIb B y) 6 h (fun i x a b hx => itr_invB (P := fun y => MIb B y) 8 hx (fun j y c d hy => by
    refine MIb_zs hy (by omega) (by omega) (by omega) (fun _ => ?_)
    split
    · exact hy.1 _ _ (by omega)
    · exact ⟨by omega, by omega⟩) 8 (Nat.le_refl 8)) 6 (Nat.le_refl 6)
theorem MIb_mBegin (h : MIb B z) : MIb B (mBegin z) := MIb_mStart (MIb_mNames h)
theorem MIb_mFail {w : Int} (h : MIb B z) : MIb B (mFail z w) := by
  by_cases hw : w = 0
  · rw [mFail_w hw]
    refine itr_invB (P := fun y => MIb B y) 6 h (fun i x a b hx => ?_) 6 (Nat.le_refl 6)
    have hgg := hx.2.1 i a (by omega)
    have hp := mMade_rg (z := x) (g := i) hgg.1.1
    show MIb B (mFail1 x i)
    unfold mFail1
    split
    · exact hx
    · exact MIb_mDel hx (by omega) (by omega)
  · rw [mFail_n hw]; exact h
theorem MIb_mEnd {w : Int} (h : MIb B z) (hw : 0 ≤ w ∧ w ≤ 1) : MIb B (mEnd z w) := by
  obtain ⟨hz, hgi, h1, h2, h6, h7⟩ := MIb_mFail (w := w) h
  refine ⟨CZ_hd (CZ_hd (CZ_hd hz (by omega)) (by omega)) (by omega), GI_hd (GI_hd (GI_hd hgi (by omega)) (by omega)) (by omega), Or.inl rfl, ?_, ?_, ?_⟩
  · show 1 - w = 0 ∨ 1 - w = 1; omega
  · show 0 ≤ mFail z w 6; exact h6
  · show mFail z w 6 ≤ B; exact h7
theorem MIb_keep {k : Int} (h : MIb B z) (hg : 0 ≤ g ∧ g ≤ 5) (hk : 1 ≤ k ∧ k ≤ 8) : MIb B (mRoll (zs z g 0 k) g) := by
  obtain ⟨hz, hgi, h1, h2, h6, h7⟩ := h
  have hgg := hgi g hg.1 hg.2
  have e1 : zg (zs z g 0 k) g 1 = zg z g 1 := zg_zs_ne (by omega)
  have e0 : zg (zs z g 0 k) g 0 = k := zg_zs _ _ _ _
  have hr := mRollN_1 (g := g) 9 (zs z g 0 k) (by omega) (by omega) (by omega)
  refine ⟨CZ_mRollN hg 9 _ (CZ_zs hz hg (by omega) (fun _ => ⟨by omega, by omega⟩)) (by omega) (by omega), ?_, ?_, ?_, ?_, ?_⟩
  · refine GI_one (g := g) hgi (fun g' k' e a hk' => ?_) ?_
    · show zg (mRollN 9 (zs z g 0 k) g) g' k' = zg z g' k'
      rw [mRollN_g e hk', zg_zs_g e (by omega) hk']
    · show (0 ≤ zg (mRollN 9 (zs z g 0 k) g) g 1 ∧ zg (mRollN 9 (zs z g 0 k) g) g 1 ≤ 8) ∧ (1 ≤ zg (mRollN 9 (zs z g 0 k) g) g 0 ∧ zg (mRollN 9 (zs z g 0 k) g) g 0 ≤ 8) ∧ (0 ≤ zg (mRollN 9 (zs z g 0 k) g) g 2 ∧ zg (mRollN 9 (zs z g 0 k) g) g 2 ≤ 99)
      rw [mRollN_k (k := 0) (by omega), mRollN_k (k := 2) (by omega), e0, zg_zs_ne (k' := 2) (by omega)]
      omega
  all_goals
    show _ 
    first
    | (show mRollN 9 (zs z g 0 k) g 1 = 0 ∨ mRollN 9 (zs z g 0 k) g 1 = 1; rw [mRollN_hd hg.1 (by omega), zs_hd hg.1 (by omega) (by omega)]; exact h1)
    | (show mRollN 9 (zs z g 0 k) g 2 = 0 ∨ mRollN 9 (zs z g 0 k) g 2 = 1; rw [mRollN_hd hg.1 (by omega), zs_hd hg.1 (by omega) (by omega)]; exact h2)
    | (show 0 ≤ mRollN 9 (zs z g 0 k) g 6; rw [mRollN_hd hg.1 (by omega), zs_hd hg.1 (by omega) (by omega)]; exact h6)
    | (show mRollN 9 (zs z g 0 k) g 6 ≤ B; rw [mRollN_hd hg.1 (by omega), zs_hd hg.1 (by omega) (by omega)]; exact h7)
end
-- one order
abbrev canP (z : Int → Int) (c g n : Int) : Prop := (c = 106 ∧ ¬ z 1 = 1) ∨ ((c = 103 ∨ c = 102) ∧ z 1 = 1) ∨ (c = 97 ∧ (¬ z 1 = 1 ∧ z 2 = 1)) ∨ (c = 119 ∧ ((n = 1 ∧ (¬ z 1 = 1 ∨ zg z g 5 = 0)) ∨ ¬ mTold z g n = -6)) ∨ (c = 100 ∧ ¬ mTold z g n = -6) ∨ (¬ c = 106 ∧ ¬ c = 103 ∧ ¬ c = 102 ∧ ¬ c = 97 ∧ ¬ c = 119 ∧ ¬ c = 100)
def ordOk (c g n d : Int) : Prop := c = 106 ∨ c = 103 ∨ c = 102 ∨ c = 97 ∨ ((c = 119 ∨ c = 114 ∨ c = 100) ∧ 0 ≤ g ∧ g ≤ 5 ∧ -7 ≤ n ∧ n ≤ 1 ∧ (c = 119 → 0 ≤ d ∧ d ≤ 9999))
def mAct (z : Int → Int) (c g n d : Int) : Int → Int := if c = 106 then mBegin z else if c = 103 then mEnd z 1 else if c = 102 then mEnd z 0 else if c = 97 then mStart z else if c = 119 then mWrite z g n d else if c = 100 then mDel z g (mTold z g n) else mRead z g n
theorem MIb_mAct {B : Int} {z : Int → Int} {c g n d : Int} (h : MIb B z) (hB : B < 1999999999) (ho : ordOk c g n d) (hc : canP z c g n) : MIb (B + 1) (mAct z c g n d) := by
  unfold ordOk at ho
  unfold mAct
  split
  · exact (MIb_mBegin h).le (by omega)
  split
  · exact (MIb_mEnd h (by omega)).le (by omega)
  split
  · exact (MIb_mEnd h (by omega)).le (by omega)
  split
  · exact (MIb_mStart h).le (by omega)
  split
  · exact MIb_mWrite h hB (by omega) (by omega) (by omega)
  have hgg := h.2.1 g (by omega) (by omega)
  have ht := mTold_rg (z := z) (g := g) (n := n) hgg.1.1
  split
  · exact (MIb_mDel h (by omega) (by omega)).le (by omega)
  · exact (MIb_mRead h (by omega)).le (by omega)
def coN (od : Int → Int) (om : Int) : Nat → (Int → Int) → Int → (Int → Int) × Int
  | 0, z, n => (z, n)
  | k + 1, z, n => if n < om ∧ canP z (od (4 * n)) (od (4 * n + 1)) (od (4 * n + 2)) then coN od om k (mAct z (od (4 * n)) (od (4 * n + 1)) (od (4 * n + 2)) (od (4 * n + 3))) (n + 1) else (z, n)
theorem coN_stop {od z : Int → Int} {om n : Int} (h : ¬ (n < om ∧ canP z (od (4 * n)) (od (4 * n + 1)) (od (4 * n + 2)))) : ∀ k : Nat, coN od om k z n = (z, n)
  | 0 => rfl
  | _ + 1 => if_neg h
theorem coN_step {od z : Int → Int} {om n : Int} (h : n < om ∧ canP z (od (4 * n)) (od (4 * n + 1)) (od (4 * n + 2))) (k : Nat) : coN od om (k + 1) z n = coN od om k (mAct z (od (4 * n)) (od (4 * n + 1)) (od (4 * n + 2)) (od (4 * n + 3))) (n + 1) := if_pos h
