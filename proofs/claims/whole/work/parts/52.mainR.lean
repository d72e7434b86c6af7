theorem har_at {ha : Int → Nat → Nat} {x : Int} (h : 0 ≤ x) : har ha x.toNat = ha x 0 := by
  unfold har
  rw [Int.toNat_of_nonneg h]
def rot {α : Type} (f : Int → α) : Int → α := fun i => if i = 6 then f 0 else if 0 ≤ i ∧ i < 6 then f (i + 1) else f i
def okN (N : zSt) : Prop := SI N.2 ∧ (N.1 1 = 0 ∨ N.1 1 = 1) ∧ (N.1 2 = 0 ∨ N.1 2 = 1)
def okH (hv : Int → zSt) : Prop := ∀ k : Int, 0 ≤ k → k ≤ 6 → okN (hv k)
def okS (sv : Int → zSt) (svd : Int → Int) : Prop := ∀ k : Int, 0 ≤ k → k ≤ 1 → okN (sv k) ∧ (svd k = 0 ∨ svd k = 1)
def er (x : Int) : Prop := x < 0 ∧ ¬ x = -6
