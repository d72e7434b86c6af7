theorem mMark_rg {z : Int → Int} {g n : Int} (hz : CZ z) (hg : 0 ≤ g ∧ g ≤ 5) (hn : -7 ≤ n ∧ n ≤ 1) : rg (mMark z g n) := by
  unfold mMark
  split
  · exact hz _ _ (by omega)
  · exact hz _ _ (by omega)
theorem told_a {z : Int → Int} {g n : Int} (h : z 1 = 1) (h2 : mMark z g n = 0) : mTold0 z g n = -6 := by unfold mTold0; rw [if_pos h, if_pos h2]
theorem told_b {z : Int → Int} {g n : Int} (h : z 1 = 1) (h2 : ¬ mMark z g n = 0) : mTold0 z g n = mPlace z g (mMark z g n) := by unfold mTold0; rw [if_pos h, if_neg h2]
theorem told_c {z : Int → Int} {g n : Int} (h : ¬ z 1 = 1) (h2 : n < 1 ∧ -n < zg z g 1) : mTold0 z g n = -n := by unfold mTold0; rw [if_neg h, if_pos h2]
theorem told_d {z : Int → Int} {g n : Int} (h : ¬ z 1 = 1) (h2 : ¬ (n < 1 ∧ -n < zg z g 1)) : mTold0 z g n = -6 := by unfold mTold0; rw [if_neg h, if_neg h2]
theorem noHole_a {z : Int → Int} {g p : Int} (h : p = -6) : noHole z g p = -6 := if_pos (Or.inl h)
theorem noHole_b {z : Int → Int} {g p : Int} (h : zg z g (15 + 5 * p + 2) = -6) : noHole z g p = -6 := if_pos (Or.inr h)
theorem noHole_c {z : Int → Int} {g p : Int} (h : ¬ p = -6) (h2 : ¬ zg z g (15 + 5 * p + 2) = -6) : noHole z g p = p := if_neg (fun q => q.elim h h2)
theorem made_a {z : Int → Int} {g : Int} (h : zg z g 5 = 0) : mMade0 z g = -6 := if_pos (Or.inl h)
theorem made_b {z : Int → Int} {g : Int} (h : ¬ z 1 = 1) : mMade0 z g = -6 := if_pos (Or.inr h)
theorem made_c {z : Int → Int} {g : Int} (h : ¬ zg z g 5 = 0) (h2 : z 1 = 1) : mMade0 z g = mPlace z g (zg z g 5) := if_neg (fun q => q.elim h (fun k => k h2))
theorem mHoles_rg {z : Int → Int} {g : Int} (h : 0 ≤ zg z g 1 ∧ zg z g 1 ≤ 8) : 0 ≤ mHoles z g ∧ mHoles z g ≤ 8 := by
  have key : ∀ n : Nat, 0 ≤ itr (fun p (n : Int) => n + (if zg z g (15 + 5 * p + 2) = -6 then 1 else 0)) 0 n ∧ itr (fun p (n : Int) => n + (if zg z g (15 + 5 * p + 2) = -6 then 1 else 0)) 0 n ≤ n := by
    intro n
    induction n with
    | zero => exact ⟨Int.le_refl 0, Int.le_refl 0⟩
    | succ n ih =>
      show 0 ≤ itr (fun p (n : Int) => n + (if zg z g (15 + 5 * p + 2) = -6 then 1 else 0)) 0 n + (if zg z g (15 + 5 * n + 2) = -6 then 1 else 0) ∧ itr (fun p (n : Int) => n + (if zg z g (15 + 5 * p + 2) = -6 then 1 else 0)) 0 n + (if zg z g (15 + 5 * n + 2) = -6 then 1 else 0) ≤ ((n + 1 : Nat) : Int)
      split <;> omega
  have := key (zg z g 1).toNat
  unfold mHoles
  omega
