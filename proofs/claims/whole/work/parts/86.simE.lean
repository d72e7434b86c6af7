-- states that are seen as the same; rows that are the same
theorem RG.eqv {B m6 jr : Int} {X X' : zGr} {y : Int → Int} (h : RG B m6 jr X y) (e : ∀ (t : Nat) (j : Int), (t = 0 ∧ 0 ≤ j ∧ j ≤ 6) ∨ (1 ≤ t ∧ t ≤ 3 ∧ 0 ≤ j ∧ j < 8) → X' t j = X t j) : RG B m6 jr X' y := by
  have e0 : X' 0 0 = X 0 0 := e 0 0 (Or.inl ⟨rfl, by omega, by omega⟩)
  have e1 : X' 0 1 = X 0 1 := e 0 1 (Or.inl ⟨rfl, by omega, by omega⟩)
  have e2 : X' 0 2 = X 0 2 := e 0 2 (Or.inl ⟨rfl, by omega, by omega⟩)
  have e3 : X' 0 3 = X 0 3 := e 0 3 (Or.inl ⟨rfl, by omega, by omega⟩)
  have e4 : X' 0 4 = X 0 4 := e 0 4 (Or.inl ⟨rfl, by omega, by omega⟩)
  have e5 : X' 0 5 = X 0 5 := e 0 5 (Or.inl ⟨rfl, by omega, by omega⟩)
  have e6 : X' 0 6 = X 0 6 := e 0 6 (Or.inl ⟨rfl, by omega, by omega⟩)
  have d1 : ∀ i : Int, X' 1 (i % 8) = X 1 (i % 8) := fun i => e 1 _ (Or.inr ⟨by omega, by omega, by omega, by omega⟩)
  have d2 : ∀ i : Int, X' 2 (i % 8) = X 2 (i % 8) := fun i => e 2 _ (Or.inr ⟨by omega, by omega, by omega, by omega⟩)
  have d3 : ∀ i : Int, X' 3 (i % 8) = X 3 (i % 8) := fun i => e 3 _ (Or.inr ⟨by omega, by omega, by omega, by omega⟩)
  obtain ⟨hA, hp, hM, hN, hJ, hH, hb⟩ := h
  refine ⟨?_, ?_, ?_, ?_, ?_, ?_, ?_⟩
  · unfold rA at hA ⊢
    rw [e0, e1, e2, e3, e4]
    exact hA
  · intro p a b
    rw [e2] at b
    rw [e1, d1, d2, d3]
    exact hp p a b
  · intro p a b
    rw [e2] at b
    obtain ⟨q1, q2, q3⟩ := hM p a b
    refine ⟨q1, q2, fun q c d => ?_⟩
    rw [e2] at d
    exact q3 q c d
  · intro k a b
    obtain ⟨q1, q2, q3⟩ := hN k a b
    refine ⟨q1, q2, fun p c d => ?_⟩
    rw [e2] at d
    rw [e1, e5]
    exact q3 p c d
  · intro w
    rw [e6, e1, e2]
    exact hJ w
  · intro w
    rw [e2] at w
    rw [e1, e2, d1]
    exact hH w
  · obtain ⟨⟨h1, h2, h3, h4, h5, h6⟩, h7, h8⟩ := hb
    refine ⟨⟨by rw [e1]; exact h1, by rw [e2, e1]; exact h2, fun j a b => ?_, by rw [e0]; exact h4, by rw [e5]; exact h5, by rw [e6]; exact h6⟩, by rw [e2, e0]; exact h7, by rw [e5, e1]; exact h8⟩
    rw [e 1 j (Or.inr ⟨by omega, by omega, a, b⟩)]
    exact h3 j a b
section
variable {B C jb jr lf jf rd vr g : Int} {G G' : Int → zGr} {z z' : Int → Int}
theorem RS.eqv (h : RS B jb jr lf jf rd vr G z) (e : eqG G' G) : RS B jb jr lf jf rd vr G' z := ⟨h.1, h.2.1, h.2.2.1, fun g a b => (h.2.2.2 g a b).eqv (e g a b)⟩
theorem MIb.row (h : MIb B z) (e : ∀ j : Int, 0 ≤ j → j < 367 → z' j = z j) : MIb B z' := by
  obtain ⟨hz, hgi, h1, h2, h6, h7⟩ := h
  have eg : ∀ g k : Int, 0 ≤ g → g ≤ 5 → 0 ≤ k → k < 60 → zg z' g k = zg z g k := fun g k a b c d => e _ (by omega) (by omega)
  refine ⟨fun g k hk => ?_, fun g a b => ?_, ?_, ?_, ?_, ?_⟩
  · rw [eg g k (by omega) (by omega) (by omega) (by omega)]
    exact hz g k hk
  · rw [eg g 1 a b (by omega) (by omega), eg g 0 a b (by omega) (by omega), eg g 2 a b (by omega) (by omega)]
    exact hgi g a b
  · rw [e 1 (by omega) (by omega)]; exact h1
  · rw [e 2 (by omega) (by omega)]; exact h2
  · rw [e 6 (by omega) (by omega)]; exact h6
  · rw [e 6 (by omega) (by omega)]; exact h7
theorem RS.row (h : RS B jb jr lf jf rd vr G z) (e : ∀ j : Int, 0 ≤ j → j < 367 → z' j = z j) : RS B jb jr lf jf rd vr G z' := by
  obtain ⟨⟨a0, a1, a2, a3, a4, a5⟩, hb, hm, hr⟩ := h
  refine ⟨⟨by rw [e 0 (by omega) (by omega)]; exact a0, by rw [e 1 (by omega) (by omega)]; exact a1, fun q => by rw [e 2 (by omega) (by omega)]; exact a2 q, by rw [e 3 (by omega) (by omega)]; exact a3, by rw [e 4 (by omega) (by omega)]; exact a4, by rw [e 5 (by omega) (by omega)]; exact a5⟩, hb, hm.row e, fun g c d => ?_⟩
  rw [e 6 (by omega) (by omega), e 1 (by omega) (by omega)]
  exact (hr g c d).mono (fun k i j => e _ (by omega) (by omega)) (Int.le_refl _) (fun q => q) (Int.le_refl _)
end
-- the data of a state
def dK (X : zGr) : Prop := ∀ j : Int, 0 ≤ j → j < 8 → X 1 j = -6 ∨ (0 ≤ X 1 j ∧ X 1 j ≤ 9999)
def dG (G : Int → zGr) : Prop := ∀ g : Int, 0 ≤ g → g ≤ 5 → dK (G g)
theorem dK_iU {X : zGr} {k v : Int} (h : dK X) (hv : v = -6 ∨ (0 ≤ v ∧ v ≤ 9999)) : ∀ j : Int, 0 ≤ j → j < 8 → iU (X 1) k v j = -6 ∨ (0 ≤ iU (X 1) k v j ∧ iU (X 1) k v j ≤ 9999) := by
  intro j a b
  unfold iU
  split
  · exact hv
  · exact h j a b
theorem dK_xK {X : zGr} {k : Int} (h : dK X) : dK (xK X k) := h
theorem dK_xMk {X : zGr} {d j : Int} (h : dK X) (hd : 0 ≤ d ∧ d ≤ 9999) : dK (xMk X d j) := dK_iU h (Or.inr hd)
theorem dK_xHo {X : zGr} {sr : Int} (h : dK X) : dK (xHo X sr) := dK_iU h (Or.inl rfl)
theorem dK_xDa {X : zGr} {sr d : Int} (h : dK X) (hd : 0 ≤ d ∧ d ≤ 9999) : dK (xDa X sr d) := dK_iU h (Or.inr hd)
theorem dK_xRe {X : zGr} {sr : Int} (h : dK X) : dK (xRe X sr) := h
theorem dK_xNJ {X : zGr} (h : dK X) : dK (xNJ X) := h
theorem dK_xM0 {X : zGr} (h : dK X) : dK (xM0 X) := h
section
variable {G G2 : Int → zGr}
theorem dG_gU {g : Int} {X : zGr} (h : dG G) (hX : dK X) : dG (gU G g X) := by
  intro i a b
  by_cases e : i = g
  · subst e; rw [gU_same]; exact hX
  · rw [gU_ne e]; exact h i a b
theorem dG_if {P : Prop} [Decidable P] (h1 : P → dG G) (h2 : ¬ P → dG G2) : dG (if P then G else G2) := by
  by_cases h : P
  · rw [if_pos h]; exact h1 h
  · rw [if_neg h]; exact h2 h
theorem dG_sSt (h : dG G) : dG (sSt G) := itr_invB (P := fun Y => dG Y) 6 h (fun i x a b hx => dG_gU hx (dK_xM0 (hx i a (by omega)))) 6 (Nat.le_refl 6)
theorem dG_sNJ (h : dG G) : dG (sNJ G) := itr_invB (P := fun Y => dG Y) 6 h (fun i x a b hx => dG_gU hx (dK_xNJ (hx i a (by omega)))) 6 (Nat.le_refl 6)
theorem dG_sFl {w : Int} (h : dG G) : dG (sFl w G) := itr_invB (P := fun Y => dG Y) 6 h (fun i x a b hx => dG_if (fun _ => dG_gU hx (dK_xHo (hx i a (by omega)))) (fun _ => hx)) 6 (Nat.le_refl 6)
theorem dG_eq (h : dG G) (e : eqG G2 G) : dG G2 := by
  intro g a b j c d
  rw [e g a b 1 j (Or.inr ⟨by omega, by omega, c, d⟩)]
  exact h g a b j c d
/-- the data that a serial tells are no error -/
theorem dG_get {g sr : Int} (h : dG G) (hg : 0 ≤ g ∧ g ≤ 5) : ¬ (G g 1 (sr % 8) < 0 ∧ ¬ G g 1 (sr % 8) = -6) := by
  have := h g hg.1 hg.2 (sr % 8) (by omega) (by omega)
  omega
end
/-- what a failing job leaves of a group -/
theorem sFl_at {G : Int → zGr} {b : Int} : ∀ g : Int, 0 ≤ g → g ≤ 5 → sFl b G g = if b = 1 ∧ thP (G g 0 1) (G g 0 2) (G g 1) (G g 0 6) then xHo (G g) (G g 0 6) else G g := by
  have key : ∀ n : Nat, ∀ g : Int, 0 ≤ g → itr (fun g Y => if b = 1 ∧ thP (Y g 0 1) (Y g 0 2) (Y g 1) (Y g 0 6) then gU Y g (xHo (Y g) (Y g 0 6)) else Y) G n g = if g < n then (if b = 1 ∧ thP (G g 0 1) (G g 0 2) (G g 1) (G g 0 6) then xHo (G g) (G g 0 6) else G g) else G g := by
    intro n
    induction n with
    | zero => intro g h0; exact (if_neg (by omega)).symm
    | succ n ih =>
      intro g h0
      have hn := ih n (by omega)
      rw [if_neg (by omega)] at hn
      show (if b = 1 ∧ thP (itr (fun g Y => if b = 1 ∧ thP (Y g 0 1) (Y g 0 2) (Y g 1) (Y g 0 6) then gU Y g (xHo (Y g) (Y g 0 6)) else Y) G n n 0 1) (itr (fun g Y => if b = 1 ∧ thP (Y g 0 1) (Y g 0 2) (Y g 1) (Y g 0 6) then gU Y g (xHo (Y g) (Y g 0 6)) else Y) G n n 0 2) (itr (fun g Y => if b = 1 ∧ thP (Y g 0 1) (Y g 0 2) (Y g 1) (Y g 0 6) then gU Y g (xHo (Y g) (Y g 0 6)) else Y) G n n 1) (itr (fun g Y => if b = 1 ∧ thP (Y g 0 1) (Y g 0 2) (Y g 1) (Y g 0 6) then gU Y g (xHo (Y g) (Y g 0 6)) else Y) G n n 0 6) then gU (itr (fun g Y => if b = 1 ∧ thP (Y g 0 1) (Y g 0 2) (Y g 1) (Y g 0 6) then gU Y g (xHo (Y g) (Y g 0 6)) else Y) G n) n (xHo (itr (fun g Y => if b = 1 ∧ thP (Y g 0 1) (Y g 0 2) (Y g 1) (Y g 0 6) then gU Y g (xHo (Y g) (Y g 0 6)) else Y) G n n) (itr (fun g Y => if b = 1 ∧ thP (Y g 0 1) (Y g 0 2) (Y g 1) (Y g 0 6) then gU Y g (xHo (Y g) (Y g 0 6)) else Y) G n n 0 6)) else itr (fun g Y => if b = 1 ∧ thP (Y g 0 1) (Y g 0 2) (Y g 1) (Y g 0 6) then gU Y g (xHo (Y g) (Y g 0 6)) else Y) G n) g = _
      rw [hn]
      have hg := ih g h0
      by_cases e : g = n
      · subst e
        rw [if_pos (show (n : Int) < ((n + 1 : Nat) : Int) by omega)]
        by_cases c : b = 1 ∧ thP (G n 0 1) (G n 0 2) (G n 1) (G n 0 6)
        · rw [if_pos c, if_pos c, gU_same]
        · rw [if_neg c, if_neg c, hn]
      · have e2 : (g < ((n + 1 : Nat) : Int)) = (g < (n : Int)) := propext ⟨fun q => by omega, fun q => by omega⟩
        simp only [e2]
        rw [← hg]
        by_cases c : b = 1 ∧ thP (G n 0 1) (G n 0 2) (G n 1) (G n 0 6)
        · rw [if_pos c, gU_ne e]
        · rw [if_neg c]
  intro g a b
  have := key 6 g a
  rw [if_pos (by omega)] at this
  exact this
section
variable {B C jb jr lf jf rd vr g : Int} {G G' : Int → zGr} {z z' : Int → Int}
theorem q_ifFailed (h : RS B jb jr lf jf rd vr G z) : (if ¬ (0 ≤ g ∧ g ≤ 5) then -1 else if mTold (mIfF z) g 0 = -6 then -6 else zg (mIfF z) g (15 + 5 * (mTold (mIfF z) g 0) + 1)) = (if ¬ (0 ≤ g ∧ g ≤ 5) then -1 else if ¬ jr = 0 ∧ ¬ G g 0 6 = 0 then -6 else nIT (G g 0 1) (G g 0 2) (G g 1) (G g 0 1)) := by
  by_cases c : ¬ (0 ≤ g ∧ g ≤ 5)
  · rw [if_pos c, if_pos c]
  rw [if_neg c, if_neg c]
  have hg : 0 ≤ g ∧ g ≤ 5 := by omega
  have hr := h.rg hg
  have e1 := h.1.2.1
  have hj := h.2.1.1
  have hb := hr.2.2.2.2.2.2.1.2.1
  by_cases j0 : jr = 0
  · have em : mIfF z = z := if_neg (by omega)
    rw [em, q_num h hg (by omega), if_neg (fun q => q.1 j0)]
    have es : sOf (G g 0 1) (G g 0 5) (G g 0 6) 0 jr = G g 0 1 := by
      unfold sOf
      rw [if_neg (by omega), if_pos j0]
      omega
    rw [es]
  · have em : mIfF z = mEnd z 0 := if_pos (by omega)
    have hE := s_end h (show jr = 1 by omega) (w := 0) (by omega)
    rw [if_pos rfl, if_pos rfl] at hE
    rw [em, q_num hE hg (by omega), sFl_at g hg.1 hg.2]
    obtain ⟨k1, k2, k3, k4, k5⟩ := hr.2.2.2.2.1 (show z 1 = 1 by omega)
    have es : ∀ X : zGr, sOf (X 0 1) (X 0 5) (X 0 6) 0 0 = X 0 1 := by
      intro X
      unfold sOf
      rw [if_neg (by omega), if_pos rfl]
      omega
    rw [es]
    by_cases m0 : G g 0 6 = 0
    · have nt : ¬ thP (G g 0 1) (G g 0 2) (G g 1) (G g 0 6) := fun q => by
        have t1 := q.1
        omega
      rw [if_neg (fun q => nt q.2), if_neg (fun q => q.2 m0)]
    · have m1 : G g 0 6 = G g 0 1 := by omega
      by_cases t : thP (G g 0 1) (G g 0 2) (G g 1) (G g 0 6)
      · have hne : ¬ thP (xHo (G g) (G g 0 6) 0 1) (xHo (G g) (G g 0 6) 0 2) (xHo (G g) (G g 0 6) 1) (xHo (G g) (G g 0 6) 0 1) := fun q => q.2.2 (by
          show iU (G g 1) (G g 0 6 % 8) (-6) (G g 0 1 % 8) = -6
          rw [m1, iU_same])
        rw [if_pos ⟨rfl, t⟩, if_pos ⟨j0, m0⟩]
        exact if_neg hne
      · rw [if_neg (fun q => t q.2), if_pos ⟨j0, m0⟩]
        exact if_neg (by rw [m1] at t; exact t)
theorem w_iff {n : Int} (h : RS B jb jr lf jf rd vr G z) (hg : 0 ≤ g ∧ g ≤ 5) (hn : -7 ≤ n ∧ n ≤ 1) : ((n = 1 ∧ (¬ z 1 = 1 ∨ zg z g 5 = 0)) ↔ (n = 1 ∧ ¬ (¬ jr = 0 ∧ ¬ G g 0 6 = 0))) ∧ (¬ mTold z g n = -6 ↔ thP (G g 0 1) (G g 0 2) (G g 1) (sOf (G g 0 1) (G g 0 5) (G g 0 6) n jr)) := by
  have hR := h.rg hg
  have e1 := h.1.2.1
  have hj := h.2.1.1
  refine ⟨?_, ?_⟩
  · rw [e1]
    by_cases c : jr = 1
    · have := (hR.2.2.2.2.1 (e1.trans c)).2.1
      omega
    · omega
  · rw [s_told h hg hn]
    by_cases t : thP (G g 0 1) (G g 0 2) (G g 1) (sOf (G g 0 1) (G g 0 5) (G g 0 6) n jr)
    · have t1 := t.1
      have t2 := t.2.1
      rw [if_pos t]
      exact ⟨fun _ => t, fun _ => by omega⟩
    · rw [if_neg t]
      exact ⟨fun q => absurd rfl q, fun q => absurd q t⟩
end
