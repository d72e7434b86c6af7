theorem sOf_rg {ne nj mj n b : Int} (h1 : 0 ≤ ne ∧ ne ≤ 1900000000) (h2 : 0 ≤ nj ∧ nj ≤ 1900000000) (h3 : 0 ≤ mj ∧ mj ≤ 1900000000) (hn : -7 ≤ n ∧ n ≤ 1) : -7 ≤ sOf ne nj mj n b ∧ sOf ne nj mj n b ≤ 1900000001 := by
  unfold sOf
  split
  · split <;> omega
  · split <;> omega
