theorem pNm_un (k : Nat) (r n : Int) : pNm (k + 1) r n = if r = 0 then (n, 1) else if 33 ≤ r % 256 ∧ r % 256 ≤ 126 then pNm k (r / 256) (n + 1) else (n + 1, 0) := rfl
theorem pNm_bad {r n : Int} {k : Nat} (hk : r ≤ k) (h0 : 0 < r) (h : ¬ (33 ≤ r % 256 ∧ r % 256 ≤ 126)) : pNm k r n = (n + 1, 0) := by
  obtain ⟨j, rfl⟩ : ∃ j : Nat, k = j + 1 := ⟨k - 1, by omega⟩
  rw [pNm_un, if_neg (by omega), if_neg h]
theorem pNm_step {r n : Int} {k : Nat} (hk : r ≤ k) (h0 : 0 < r) (h : 33 ≤ r % 256 ∧ r % 256 ≤ 126) : ∃ j : Nat, r / 256 ≤ j ∧ pNm k r n = pNm j (r / 256) (n + 1) := by
  obtain ⟨j, rfl⟩ : ∃ j : Nat, k = j + 1 := ⟨k - 1, by omega⟩
  exact ⟨j, by omega, by rw [pNm_un, if_neg (by omega), if_pos h]⟩
def nP (u : Int) : Int × Int := pNm u.toNat u 0
def gIv (g r n cu : Int) : Prop := g = 1 → ∃ k : Nat, r ≤ k ∧ pNm k r n = nP cu
theorem put_fin {cu n1 r1 g1 : Int} (h0 : g1 = 0 ∨ g1 = 1) (h1 : gIv g1 r1 n1 cu) (h2 : g1 = 0 → nP cu = (n1, 0)) (hr : r1 = 0 ∨ g1 = 0) : nP cu = (n1, g1) := by
  rcases h0 with h | h
  · rw [h2 h, h]
  · obtain ⟨k, hk1, hk2⟩ := h1 h
    have hr0 : r1 = 0 := by omega
    rw [← hk2, hr0, pNm_0, h]
