theorem zg_mStart0 {z : Int → Int} {g k : Int} (hg : 0 ≤ g) (hk : 0 ≤ k) : zg (mStart0 z) g k = zg z g k := by
  unfold mStart0
  rw [zg_hd hg hk (by omega), zg_hd hg hk (by omega), zg_hd hg hk (by omega)]
def mNPre (z y : Int → Int) : Prop := ∀ g k : Int, 0 ≤ g ∧ g ≤ 5 → 0 ≤ k ∧ k < 60 → (k < 7 ∨ 15 ≤ k) → zg y g k = zg z g k
theorem mNPre_zs {z y : Int → Int} {g k v : Int} (h : mNPre z y) (hk : 7 ≤ k ∧ k < 15) : mNPre z (zs y g k v) := by
  intro g' k' hg hk' hk2
  by_cases e : g' = g
  · subst e
    rw [zg_zs_ne (by omega)]
    exact h _ _ hg hk' hk2
  · rw [zg_zs_g e (by omega) hk']
    exact h _ _ hg hk' hk2
theorem mFail_w {z : Int → Int} {w : Int} (h : w = 0) : mFail z w = itr (fun g y => mFail1 y g) z 6 := if_pos h
theorem mFail_n {z : Int → Int} {w : Int} (h : ¬ w = 0) : mFail z w = z := if_neg h
