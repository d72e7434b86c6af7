def recU (x un : Int) : Int := if x < 0 ∧ ¬ x = -6 then un else if un < 6 then un + 1 else un
def recA {α : Type} (x un : Int) (f : Int → α) : Int → α := if (x < 0 ∧ ¬ x = -6) ∨ un < 6 then f else rot f
theorem rg_if {P : Prop} [Decidable P] {a b : Int} (h1 : P → rg a) (h2 : ¬ P → rg b) : rg (if P then a else b) := by
  by_cases h : P
  · rw [if_pos h]; exact h1 h
  · rw [if_neg h]; exact h2 h
theorem nO_rg (x : Int) : 0 ≤ nO x ∧ nO x ≤ 99 := by
  unfold nO
  split <;> omega
theorem sMd_rg (jr : Int) (G : Int → zGr) : 0 ≤ sMd jr G ∧ sMd jr G ≤ 6 := by
  have key : ∀ n : Nat, 0 ≤ itr (fun g n => if ¬ jr = 0 ∧ thP (G g 0 1) (G g 0 2) (G g 1) (G g 0 6) then n + 1 else n) (0 : Int) n ∧ itr (fun g n => if ¬ jr = 0 ∧ thP (G g 0 1) (G g 0 2) (G g 1) (G g 0 6) then n + 1 else n) (0 : Int) n ≤ n := by
    intro n
    induction n with
    | zero => exact ⟨Int.le_refl 0, Int.le_refl 0⟩
    | succ n ih =>
      show 0 ≤ (if ¬ jr = 0 ∧ thP (G n 0 1) (G n 0 2) (G n 1) (G n 0 6) then itr (fun g n => if ¬ jr = 0 ∧ thP (G g 0 1) (G g 0 2) (G g 1) (G g 0 6) then n + 1 else n) (0 : Int) n + 1 else itr (fun g n => if ¬ jr = 0 ∧ thP (G g 0 1) (G g 0 2) (G g 1) (G g 0 6) then n + 1 else n) (0 : Int) n) ∧ (if ¬ jr = 0 ∧ thP (G n 0 1) (G n 0 2) (G n 1) (G n 0 6) then itr (fun g n => if ¬ jr = 0 ∧ thP (G g 0 1) (G g 0 2) (G g 1) (G g 0 6) then n + 1 else n) (0 : Int) n + 1 else itr (fun g n => if ¬ jr = 0 ∧ thP (G g 0 1) (G g 0 2) (G g 1) (G g 0 6) then n + 1 else n) (0 : Int) n) ≤ ((n + 1 : Nat) : Int)
      split <;> omega
  exact key 6
theorem sCT_rg {G : Int → zGr} (h : SI G) : 0 ≤ sCT G ∧ sCT G ≤ 48 := by
  have key : ∀ n : Nat, n ≤ 6 → 0 ≤ itr (fun g n => n + (G g 0 2 - cHo (G g 0 1) (G g 0 2) (G g 1))) (0 : Int) n ∧ itr (fun g n => n + (G g 0 2 - cHo (G g 0 1) (G g 0 2) (G g 1))) (0 : Int) n ≤ 8 * n := by
    intro n
    induction n with
    | zero => intro _; exact ⟨Int.le_refl 0, by show (0 : Int) ≤ 8 * ((0 : Nat) : Int); omega⟩
    | succ n ih =>
      intro hn
      have := ih (by omega)
      obtain ⟨hx1, hx2, hx3, hx4, hx5, hx6⟩ := h n (by omega) (by omega)
      have hc := cHo_rg (ne := G n 0 1) (si := G n 0 2) (da := G n 1) hx2.1
      show 0 ≤ itr (fun g n => n + (G g 0 2 - cHo (G g 0 1) (G g 0 2) (G g 1))) (0 : Int) n + (G n 0 2 - cHo (G n 0 1) (G n 0 2) (G n 1)) ∧ itr (fun g n => n + (G g 0 2 - cHo (G g 0 1) (G g 0 2) (G g 1))) (0 : Int) n + (G n 0 2 - cHo (G n 0 1) (G n 0 2) (G n 1)) ≤ 8 * ((n + 1 : Nat) : Int)
      omega
  have := key 6 (by omega)
  unfold sCT
  omega
theorem sCp_rg {G G2 : Int → zGr} : ∀ g : Int, 0 ≤ g → g ≤ 5 → ∀ (t : Nat) (j : Int), (t = 0 ∧ 0 ≤ j ∧ j ≤ 6) ∨ (1 ≤ t ∧ t ≤ 3 ∧ 0 ≤ j ∧ j < 8) → sCp G G2 g t j = G2 g t j := by
  have key : ∀ n : Nat, n ≤ 6 → ∀ g : Int, 0 ≤ g → g < n → itr (fun g Y => gU Y g (xCp (Y g) (G2 g))) G n g = xCp (G g) (G2 g) ∧ True := by
    intro n
    induction n with
    | zero => intro _ g h0 h1; exact absurd h1 (by omega)
    | succ n ih =>
      intro hn g h0 h1
      have hun : ∀ m : Nat, ∀ i : Int, (m : Int) ≤ i → itr (fun g Y => gU Y g (xCp (Y g) (G2 g))) G m i = G i := by
        intro m
        induction m with
        | zero => intro i _; rfl
        | succ m ihm =>
          intro i hi
          show gU (itr (fun g Y => gU Y g (xCp (Y g) (G2 g))) G m) m (xCp (itr (fun g Y => gU Y g (xCp (Y g) (G2 g))) G m m) (G2 m)) i = G i
          rw [gU_ne (by omega)]
          exact ihm i (by omega)
      show gU (itr (fun g Y => gU Y g (xCp (Y g) (G2 g))) G n) n (xCp (itr (fun g Y => gU Y g (xCp (Y g) (G2 g))) G n n) (G2 n)) g = xCp (G g) (G2 g) ∧ True
      by_cases e : g = n
      · subst e
        rw [gU_same, hun n n (by omega)]
        exact ⟨rfl, trivial⟩
      · rw [gU_ne e]
        exact ih (by omega) g h0 (by omega)
  intro g h0 h5 t j ht
  have e : sCp G G2 g = xCp (G g) (G2 g) := (key 6 (by omega) g h0 (by omega)).1
  rw [e]
  rcases ht with ⟨rfl, h1, h2⟩ | ⟨h1, h2, h3, h4⟩
  · rcases (show j = 0 ∨ j = 1 ∨ j = 2 ∨ j = 3 ∨ j = 4 ∨ j = 5 ∨ j = 6 by omega) with rfl | rfl | rfl | rfl | rfl | rfl | rfl <;> rfl
  · rcases (show t = 1 ∨ t = 2 ∨ t = 3 by omega) with rfl | rfl | rfl
    · exact if_pos ⟨h3, h4⟩
    · exact if_pos ⟨h3, h4⟩
    · exact if_pos ⟨h3, h4⟩
/-- two states hold the same where a state can be seen -/
def eqG (G G2 : Int → zGr) : Prop := ∀ g : Int, 0 ≤ g → g ≤ 5 → ∀ (t : Nat) (j : Int), (t = 0 ∧ 0 ≤ j ∧ j ≤ 6) ∨ (1 ≤ t ∧ t ≤ 3 ∧ 0 ≤ j ∧ j < 8) → G g t j = G2 g t j
theorem SI_eq {G G2 : Int → zGr} (h : eqG G G2) (h2 : SI G2) : SI G := by
  intro g a b
  obtain ⟨h1, h2, h3, h4, h5, h6⟩ := h2 g a b
  have e := fun j (hj : 0 ≤ j ∧ j ≤ 6) => h g a b 0 j (Or.inl ⟨rfl, hj.1, hj.2⟩)
  refine ⟨?_, ?_, ?_, ?_, ?_, ?_⟩
  · rw [e 1 (by omega)]; exact h1
  · rw [e 2 (by omega), e 1 (by omega)]; exact h2
  · intro j h0 h8
    rw [h g a b 1 j (Or.inr ⟨by omega, by omega, h0, h8⟩)]
    exact h3 j h0 h8
  · rw [e 0 (by omega)]; exact h4
  · rw [e 5 (by omega)]; exact h5
  · rw [e 6 (by omega)]; exact h6
theorem recU_ok {x un : Int} (h : 0 ≤ x) : recU x un = recU 0 un := by
  unfold recU
  rw [if_neg (show ¬ (x < 0 ∧ ¬ x = -6) by omega), if_neg (show ¬ ((0 : Int) < 0 ∧ ¬ (0 : Int) = -6) by omega)]
theorem recA_ok {α : Type} {x un : Int} {f : Int → α} (h : 0 ≤ x) : recA x un f = recA 0 un f := by
  unfold recA
  by_cases h6 : un < 6
  · rw [if_pos (Or.inr h6), if_pos (Or.inr h6)]
  · rw [if_neg (show ¬ ((x < 0 ∧ ¬ x = -6) ∨ un < 6) by omega), if_neg (show ¬ (((0 : Int) < 0 ∧ ¬ (0 : Int) = -6) ∨ un < 6) by omega)]
