-- how many digits can stand behind a place of the text
def mx (pl : Int) : Int := if pl = 1 then 0 else if pl = 2 then 2 else if pl = 3 then 2 else if pl = 8 then 0 else if pl = 9 then 4 else if pl = 10 then 3 else if pl = 11 then 2 else if pl = 12 then 1 else if pl = 13 then 0 else 1
theorem mx_rg (pl : Int) : 0 ≤ mx pl ∧ mx pl ≤ 4 := by
  unfold mx
  repeat' split
  all_goals omega
theorem mx_step {pl k : Int} (hp : 1 ≤ pl ∧ pl ≤ 13) (hk : 48 ≤ k ∧ k ≤ 57) (hb : ¬ PB pl k = 0) : mx (PB pl k) + 1 ≤ mx pl := by
  have hO : pO k = 0 := if_neg (by omega)
  rcases (show pl = 1 ∨ pl = 2 ∨ pl = 3 ∨ pl = 4 ∨ pl = 5 ∨ pl = 6 ∨ pl = 7 ∨ pl = 8 ∨ pl = 9 ∨ pl = 10 ∨ pl = 11 ∨ pl = 12 ∨ pl = 13 by omega) with rfl | rfl | rfl | rfl | rfl | rfl | rfl | rfl | rfl | rfl | rfl | rfl | rfl
  · have e : PB 1 k = pL k := rfl
    rw [e] at hb ⊢
    refine absurd ?_ hb
    unfold pL
    rw [if_neg (by omega), if_neg (by omega), if_neg (by omega)]
  · have e : PB 2 k = if 48 ≤ k ∧ k ≤ 53 then 4 else 0 := rfl
    rw [e] at hb ⊢
    by_cases c : 48 ≤ k ∧ k ≤ 53
    · rw [if_pos c]; decide
    · exact absurd (if_neg c) hb
  · have e : PB 3 k = if 48 ≤ k ∧ k ≤ 53 then 5 else 0 := rfl
    rw [e] at hb ⊢
    by_cases c : 48 ≤ k ∧ k ≤ 53
    · rw [if_pos c]; decide
    · exact absurd (if_neg c) hb
  · have e : PB 4 k = pN k 6 13 := rfl
    rw [e] at hb ⊢
    by_cases c : k = 48
    · have e2 : pN k 6 13 = 13 := by unfold pN; rw [if_neg (by omega), if_pos (Or.inl c)]
      rw [e2]; decide
    · refine absurd ?_ hb
      unfold pN
      rw [if_neg (by omega), if_neg (by omega)]
  · have e : PB 5 k = pN k 7 8 := rfl
    rw [e] at hb ⊢
    by_cases c : k = 48
    · have e2 : pN k 7 8 = 8 := by unfold pN; rw [if_neg (by omega), if_pos (Or.inl c)]
      rw [e2]; decide
    · refine absurd ?_ hb
      unfold pN
      rw [if_neg (by omega), if_neg (by omega)]
  · have e : PB 6 k = if 49 ≤ k ∧ k ≤ 55 then 13 else 0 := rfl
    rw [e] at hb ⊢
    by_cases c : 49 ≤ k ∧ k ≤ 55
    · rw [if_pos c]; decide
    · exact absurd (if_neg c) hb
  · have e : PB 7 k = if 49 ≤ k ∧ k ≤ 55 then 8 else 0 := rfl
    rw [e] at hb ⊢
    by_cases c : 49 ≤ k ∧ k ≤ 55
    · rw [if_pos c]; decide
    · exact absurd (if_neg c) hb
  · have e : PB 8 k = if k = 61 then 9 else 0 := rfl
    rw [e] at hb ⊢
    exact absurd (if_neg (by omega)) hb
  · have e : PB 9 k = if k = 48 then 13 else if 48 ≤ k ∧ k ≤ 57 then 10 else 0 := rfl
    rw [e] at hb ⊢
    by_cases c : k = 48
    · rw [if_pos c]; decide
    · rw [if_neg c, if_pos hk]; decide
  · have e : PB 10 k = if 48 ≤ k ∧ k ≤ 57 then 11 else pO k := rfl
    rw [e] at hb ⊢
    rw [if_pos hk]; decide
  · have e : PB 11 k = if 48 ≤ k ∧ k ≤ 57 then 12 else pO k := rfl
    rw [e] at hb ⊢
    rw [if_pos hk]; decide
  · have e : PB 12 k = if 48 ≤ k ∧ k ≤ 57 then 13 else pO k := rfl
    rw [e] at hb ⊢
    rw [if_pos hk]; decide
  · have e : PB 13 k = pO k := rfl
    rw [e] at hb ⊢
    exact absurd hO hb
section
variable {sg : Int → Int} {le : Int}
theorem dN_rg0 {pl ps v : Int} (hp : 1 ≤ pl ∧ pl ≤ 13) (hm : mx pl ≤ 0) (h0 : 0 ≤ ps) (hc : cFN sg le (le - ps).toNat pl ps = -6) (hv : 0 ≤ v) : 0 ≤ dN sg le (le - ps).toNat v ps ∧ dN sg le (le - ps).toNat v ps ≤ 1 * v + 0 := by
  rw [dN_stop (fun q => ?_)]
  · omega
  · have e : Sg sg le ps = sg ps := if_pos ⟨h0, q.1⟩
    rw [e] at q
    by_cases b : PB pl (sg ps) = 0
    · rw [cFN_bad (by omega) b] at hc
      omega
    · have h1 := mx_step hp ⟨q.2.1, q.2.2⟩ b
      have h2 := mx_rg (PB pl (sg ps))
      omega
theorem dN_rg1 {pl ps v : Int} (hp : 1 ≤ pl ∧ pl ≤ 13) (hm : mx pl ≤ 1) (h0 : 0 ≤ ps) (hc : cFN sg le (le - ps).toNat pl ps = -6) (hv : 0 ≤ v) : 0 ≤ dN sg le (le - ps).toNat v ps ∧ dN sg le (le - ps).toNat v ps ≤ 10 * v + 9 := by
  by_cases q : ps < le ∧ 48 ≤ Sg sg le ps ∧ Sg sg le ps ≤ 57
  · have e : Sg sg le ps = sg ps := if_pos ⟨h0, q.1⟩
    rw [dN_step q]
    rw [e] at q ⊢
    by_cases b : PB pl (sg ps) = 0
    · rw [cFN_bad (by omega) b] at hc
      omega
    · have h1 := mx_step hp ⟨q.2.1, q.2.2⟩ b
      have h2 := PB_rg pl (sg ps)
      rw [cFN_step (by omega) b] at hc
      have h3 := dN_rg0 (pl := PB pl (sg ps)) (ps := ps + 1) (v := 10 * v + sg ps - 48) (by omega) (by omega) (by omega) hc (by omega)
      omega
  · rw [dN_stop q]
    omega
theorem dN_rg2 {pl ps v : Int} (hp : 1 ≤ pl ∧ pl ≤ 13) (hm : mx pl ≤ 2) (h0 : 0 ≤ ps) (hc : cFN sg le (le - ps).toNat pl ps = -6) (hv : 0 ≤ v) : 0 ≤ dN sg le (le - ps).toNat v ps ∧ dN sg le (le - ps).toNat v ps ≤ 100 * v + 99 := by
  by_cases q : ps < le ∧ 48 ≤ Sg sg le ps ∧ Sg sg le ps ≤ 57
  · have e : Sg sg le ps = sg ps := if_pos ⟨h0, q.1⟩
    rw [dN_step q]
    rw [e] at q ⊢
    by_cases b : PB pl (sg ps) = 0
    · rw [cFN_bad (by omega) b] at hc
      omega
    · have h1 := mx_step hp ⟨q.2.1, q.2.2⟩ b
      have h2 := PB_rg pl (sg ps)
      rw [cFN_step (by omega) b] at hc
      have h3 := dN_rg1 (pl := PB pl (sg ps)) (ps := ps + 1) (v := 10 * v + sg ps - 48) (by omega) (by omega) (by omega) hc (by omega)
      omega
  · rw [dN_stop q]
    omega
theorem dN_rg3 {pl ps v : Int} (hp : 1 ≤ pl ∧ pl ≤ 13) (hm : mx pl ≤ 3) (h0 : 0 ≤ ps) (hc : cFN sg le (le - ps).toNat pl ps = -6) (hv : 0 ≤ v) : 0 ≤ dN sg le (le - ps).toNat v ps ∧ dN sg le (le - ps).toNat v ps ≤ 1000 * v + 999 := by
  by_cases q : ps < le ∧ 48 ≤ Sg sg le ps ∧ Sg sg le ps ≤ 57
  · have e : Sg sg le ps = sg ps := if_pos ⟨h0, q.1⟩
    rw [dN_step q]
    rw [e] at q ⊢
    by_cases b : PB pl (sg ps) = 0
    · rw [cFN_bad (by omega) b] at hc
      omega
    · have h1 := mx_step hp ⟨q.2.1, q.2.2⟩ b
      have h2 := PB_rg pl (sg ps)
      rw [cFN_step (by omega) b] at hc
      have h3 := dN_rg2 (pl := PB pl (sg ps)) (ps := ps + 1) (v := 10 * v + sg ps - 48) (by omega) (by omega) (by omega) hc (by omega)
      omega
  · rw [dN_stop q]
    omega
theorem dN_rg4 {pl ps v : Int} (hp : 1 ≤ pl ∧ pl ≤ 13) (hm : mx pl ≤ 4) (h0 : 0 ≤ ps) (hc : cFN sg le (le - ps).toNat pl ps = -6) (hv : 0 ≤ v) : 0 ≤ dN sg le (le - ps).toNat v ps ∧ dN sg le (le - ps).toNat v ps ≤ 10000 * v + 9999 := by
  by_cases q : ps < le ∧ 48 ≤ Sg sg le ps ∧ Sg sg le ps ≤ 57
  · have e : Sg sg le ps = sg ps := if_pos ⟨h0, q.1⟩
    rw [dN_step q]
    rw [e] at q ⊢
    by_cases b : PB pl (sg ps) = 0
    · rw [cFN_bad (by omega) b] at hc
      omega
    · have h1 := mx_step hp ⟨q.2.1, q.2.2⟩ b
      have h2 := PB_rg pl (sg ps)
      rw [cFN_step (by omega) b] at hc
      have h3 := dN_rg3 (pl := PB pl (sg ps)) (ps := ps + 1) (v := 10 * v + sg ps - 48) (by omega) (by omega) (by omega) hc (by omega)
      omega
  · rw [dN_stop q]
    omega
/-- a text without a fault has a place everywhere -/
theorem pl_at (hc : cF sg le = -6) : ∀ n : Nat, (n : Int) ≤ le → ∃ pl : Int, (1 ≤ pl ∧ pl ≤ 13) ∧ cFN sg le (le - n).toNat pl n = -6
  | 0, _ => ⟨1, by omega, by
    unfold cF at hc
    rw [show le - ((0 : Nat) : Int) = le by omega]
    exact hc⟩
  | n + 1, h => by
    obtain ⟨pl, h1, h2⟩ := pl_at hc n (by omega)
    by_cases b : PB pl (sg n) = 0
    · rw [cFN_bad (by omega) b] at h2
      omega
    · rw [cFN_step (by omega) b] at h2
      have h3 := PB_rg pl (sg n)
      refine ⟨PB pl (sg n), by omega, ?_⟩
      rw [show ((n + 1 : Nat) : Int) = (n : Int) + 1 by omega]
      exact h2
theorem dOO_rg (hc : cF sg le = -6) {i : Int} (h0 : 0 ≤ i) : rg (dOO sg le i) := by
  unfold dOO
  have key : ∀ j : Int, 0 ≤ j → rg (dN sg le (le - j).toNat 0 j) := by
    intro j hj
    by_cases c : j ≤ le
    · obtain ⟨pl, h1, h2⟩ := pl_at hc j.toNat (by omega)
      rw [show ((j.toNat : Nat) : Int) = j by omega] at h2
      have h3 := mx_rg pl
      have := dN_rg4 (v := 0) h1 (by omega) hj h2 (by omega)
      exact ⟨by omega, by omega⟩
    · rw [show (le - j).toNat = 0 by omega]
      exact ⟨by show -2147483648 ≤ (0 : Int); omega, by show (0 : Int) < 2147483648; omega⟩
  exact key _ (by split <;> omega)
/-- the digits of a number -/
theorem nN_dig : ∀ (k : Nat) (v s p : Int), s ≤ p → p < (nN sg le k v s).2 → p < le ∧ 48 ≤ sg p ∧ sg p ≤ 57
  | 0, v, s, p, h1, h2 => absurd h2 (by show ¬ p < s; omega)
  | k + 1, v, s, p, h1, h2 => by
    by_cases h : 0 < v ∧ 0 ≤ Lt sg le s - 48 ∧ Lt sg le s - 48 ≤ 9 ∧ 10 * v + (Lt sg le s - 48) ≤ 9999
    · rw [nN_step h] at h2
      have hl := Lt_lt (sg := sg) (le := le) (ps := s) (by omega)
      by_cases e : p = s
      · subst e
        omega
      · exact nN_dig k _ (s + 1) p (by omega) h2
    · rw [nN_stop h] at h2
      exact absurd h2 (by dsimp only; omega)
theorem nN_end : ∀ (k : Nat) (v s : Int), s ≤ le → (nN sg le k v s).2 ≤ le
  | 0, v, s, h => h
  | k + 1, v, s, h => by
    by_cases q : 0 < v ∧ 0 ≤ Lt sg le s - 48 ∧ Lt sg le s - 48 ≤ 9 ∧ 10 * v + (Lt sg le s - 48) ≤ 9999
    · rw [nN_step q]
      have hl := Lt_lt (sg := sg) (le := le) (ps := s) (by omega)
      exact nN_end k _ _ (by omega)
    · rw [nN_stop q]
      exact h
/-- the number that the class reads is the model's -/
theorem dN_nN : ∀ (k : Nat) (v s : Int), 0 ≤ s → ¬ ((nN sg le k v s).2 < le ∧ 48 ≤ sg (nN sg le k v s).2 ∧ sg (nN sg le k v s).2 ≤ 57) → dN sg le (le - s).toNat v s = (nN sg le k v s).1
  | 0, v, s, h0, h => by
    refine dN_stop (fun q => h ?_) _
    have e : Sg sg le s = sg s := if_pos ⟨h0, q.1⟩
    rw [e] at q
    exact q
  | k + 1, v, s, h0, h => by
    by_cases q : 0 < v ∧ 0 ≤ Lt sg le s - 48 ∧ Lt sg le s - 48 ≤ 9 ∧ 10 * v + (Lt sg le s - 48) ≤ 9999
    · rw [nN_step q] at h ⊢
      have hl := Lt_lt (sg := sg) (le := le) (ps := s) (by omega)
      have e : Sg sg le s = sg s := if_pos ⟨h0, hl.1⟩
      rw [dN_step (by rw [e]; omega), e, ← dN_nN k _ (s + 1) (by omega) h]
      rw [show 10 * v + sg s - 48 = 10 * v + (Lt sg le s - 48) by omega]
    · rw [nN_stop q] at h ⊢
      refine dN_stop (fun w => h ?_) _
      have e : Sg sg le s = sg s := if_pos ⟨h0, w.1⟩
      rw [e] at w
      exact w
/-- an order that is read without a fault: where it ends, that no sign in it ends an order, and what the class reads of it -/
theorem ord_ok {st : Int} (hs : 0 ≤ st ∧ st ≤ le) (hle : le ≤ 80) (h : roW sg le (-6) st = -6) (hnd : ¬ (roS sg le (-6) st < le ∧ 48 ≤ sg (roS sg le (-6) st) ∧ sg (roS sg le (-6) st) ≤ 57)) : (roS sg le (-6) st ≤ le ∧ st < roS sg le (-6) st) ∧ (∀ p : Int, st ≤ p → p < roS sg le (-6) st → ¬ Sg sg le p = 59) ∧ Sg sg le st = Lt sg le st ∧ ∀ (od : Int → Int) (om : Int), roD sg le (-6) st od om (4 * om) = Lt sg le st ∧ (Lt sg le st = 119 ∨ Lt sg le st = 114 ∨ Lt sg le st = 100 → Sg sg le (st + 1) - 48 = roD sg le (-6) st od om (4 * om + 1) ∧ nOO sg le st = roD sg le (-6) st od om (4 * om + 2)) ∧ (Lt sg le st = 119 → dOO sg le st = roD sg le (-6) st od om (4 * om + 3)) := by
  have e1S : q1S (-6) st = st + 1 := wS_go
  have hSL : ∀ p : Int, 0 ≤ p → ¬ Lt sg le p = -6 → Sg sg le p = Lt sg le p ∧ Lt sg le p = sg p ∧ p < le := by
    intro p a b
    have hl := Lt_lt b
    exact ⟨(if_pos ⟨a, hl.1⟩ : Sg sg le p = sg p).trans hl.2.symm, hl.2, hl.1⟩
  by_cases w : Lt sg le st = 119 ∨ Lt sg le st = 114 ∨ Lt sg le st = 100
  · have e1W : q1W sg le (-6) st = -6 := wW_t (by omega)
    have e2S : q2S sg le (-6) st = st + 2 := by unfold q2S; rw [e1W, e1S, wS_go]; omega
    have b3 : q3W sg le (-6) st = -6 := by
      unfold roW at h
      by_cases w1 : Lt sg le st = 119
      · rw [if_pos w1] at h
        have hq := q_rg (pd := sg) (ty := le) (wr := -6) (st := st) (by omega) (by omega)
        exact (wW_ok (dW_ok h (by omega)).1 (by omega)).1
      · rw [if_neg w1, if_pos (by omega)] at h
        exact h
    obtain ⟨b2, n1, n2, n3⟩ := naW_ok b3 (by omega)
    obtain ⟨-, g1, g2⟩ := dW_ok b2 (by omega)
    rw [e1S] at g1 g2
    rw [e2S] at n1
    have hst := hSL st hs.1 (by omega)
    have hg := hSL (st + 1) (by omega) (by omega)
    have hn := hSL (st + 2) (by omega) (by omega)
    -- the name
    have hnm : nOO sg le st = naV sg le (q2W sg le (-6) st) (q2S sg le (-6) st) ∧ q3S sg le (-6) st = (if Sg sg le (st + 2) = 45 then st + 4 else st + 3) ∧ (Sg sg le (st + 2) = 45 → 49 ≤ Sg sg le (st + 3) ∧ Sg sg le (st + 3) ≤ 55 ∧ st + 3 < le) := by
      unfold q3S q3W at *
      rw [b2, e2S] at b3 ⊢
      have nW1 : naW1 sg le (-6) (st + 2) = -6 := wW_t n1
      unfold naW at b3
      unfold naS naV nOO
      rw [hn.1, wS_go, show st + 2 + 1 = st + 3 by omega]
      rw [wS_go, show st + 2 + 1 = st + 3 by omega] at b3
      by_cases m : Lt sg le (st + 2) = 45
      · rw [if_pos m] at b3
        obtain ⟨-, d1, d2⟩ := dW_ok b3 (by omega)
        have h3 := hSL (st + 3) (by omega) (by omega)
        rw [if_neg (by omega), if_pos m, if_neg (by omega), if_pos m, if_pos m, if_pos m, nW1, wS_go, h3.1]
        exact ⟨by omega, by omega, fun _ => ⟨by omega, by omega, h3.2.2⟩⟩
      · rw [if_neg m, if_neg m, if_neg m, if_neg m]
        exact ⟨rfl, rfl, fun q => absurd q m⟩
    obtain ⟨m1, m2, m3⟩ := hnm
    have hsign : ∀ p : Int, st ≤ p → p < q3S sg le (-6) st → ¬ Sg sg le p = 59 := by
      intro p a b
      rcases (show p = st ∨ p = st + 1 ∨ p = st + 2 ∨ (p = st + 3 ∧ Sg sg le (st + 2) = 45) by
        by_cases m : Sg sg le (st + 2) = 45
        · rw [if_pos m] at m2; omega
        · rw [if_neg m] at m2; omega) with rfl | rfl | rfl | ⟨rfl, m⟩
      · omega
      · omega
      · omega
      · have := m3 m
        omega
    have h3le : q3S sg le (-6) st ≤ le ∧ st < q3S sg le (-6) st := by
      by_cases m : Sg sg le (st + 2) = 45
      · have := m3 m
        rw [if_pos m] at m2; omega
      · rw [if_neg m] at m2; omega
    have hD1 : ∀ (od : Int → Int) (om : Int), roD3 sg le (-6) st od om (4 * om) = Lt sg le st ∧ roD3 sg le (-6) st od om (4 * om + 1) = Lt sg le (st + 1) - 48 ∧ roD3 sg le (-6) st od om (4 * om + 2) = naV sg le (q2W sg le (-6) st) (q2S sg le (-6) st) := by
      intro od om
      unfold roD3
      rw [iU_ne (show 4 * om ≠ 4 * om + 2 by omega), iU_ne (show 4 * om ≠ 4 * om + 1 by omega), iU_same, iU_ne (show 4 * om + 1 ≠ 4 * om + 2 by omega), iU_same, iU_same, e1S]
      exact ⟨rfl, rfl, rfl⟩
    by_cases w1 : Lt sg le st = 119
    · have eS : roS sg le (-6) st = q5S sg le (-6) st := if_pos w1
      have eD : ∀ (od : Int → Int) (om : Int), roD sg le (-6) st od om = iU (roD3 sg le (-6) st od om) (4 * om + 3) (nR sg le (q4W sg le (-6) st) (q4S sg le (-6) st)).1 := fun od om => if_pos w1
      unfold roW at h
      rw [if_pos w1] at h
      have hq := q_rg (pd := sg) (ty := le) (wr := -6) (st := st) (by omega) (by omega)
      obtain ⟨b4, d1, d2⟩ := dW_ok h (by omega)
      obtain ⟨-, q1⟩ := wW_ok b4 (by omega)
      have q1 : Lt sg le (q3S sg le (-6) st) = 61 := zb_of q1
      have e4S : q4S sg le (-6) st = q3S sg le (-6) st + 1 := by unfold q4S; rw [b3, wS_go]
      have hq3 := hSL (q3S sg le (-6) st) (by omega) (by omega)
      have hq4 := hSL (q4S sg le (-6) st) (by omega) (by omega)
      have d5 : dW 0 9 (Lt sg le (q4S sg le (-6) st)) (q4W sg le (-6) st) (q4S sg le (-6) st) = -6 := h
      have e5 : nR sg le (q4W sg le (-6) st) (q4S sg le (-6) st) = nN sg le 3 (Lt sg le (q4S sg le (-6) st) - 48) (q4S sg le (-6) st + 1) := by
        unfold nR
        rw [if_pos d5, b4, wS_go]
      have e5S : q5S sg le (-6) st = (nN sg le 3 (Lt sg le (q4S sg le (-6) st) - 48) (q4S sg le (-6) st + 1)).2 := by
        unfold q5S
        rw [e5]
      have hnr := nN_rg (pd := sg) (ty := le) 3 (Lt sg le (q4S sg le (-6) st) - 48) (q4S sg le (-6) st + 1)
      have hne := nN_end (sg := sg) (le := le) 3 (Lt sg le (q4S sg le (-6) st) - 48) (q4S sg le (-6) st + 1) (by omega)
      rw [eS, e5S] at hnd ⊢
      refine ⟨⟨by omega, by omega⟩, fun p a b => ?_, hst.1, fun od om => ?_⟩
      · by_cases c1 : p < q3S sg le (-6) st
        · exact hsign p a c1
        by_cases c2 : p = q3S sg le (-6) st
        · rw [c2]; omega
        by_cases c3 : p = q4S sg le (-6) st
        · rw [c3]; omega
        have hd := nN_dig 3 _ _ p (by omega) b
        have e : Sg sg le p = sg p := if_pos ⟨by omega, hd.1⟩
        omega
      · rw [eD, iU_ne (show 4 * om ≠ 4 * om + 3 by omega), iU_ne (show 4 * om + 1 ≠ 4 * om + 3 by omega), iU_ne (show 4 * om + 2 ≠ 4 * om + 3 by omega), iU_same, (hD1 od om).1, (hD1 od om).2.1, (hD1 od om).2.2]
        refine ⟨rfl, fun _ => ⟨by omega, m1⟩, fun _ => ?_⟩
        have es : st + (if Sg sg le (st + 2) = 45 then 5 else 4) = q4S sg le (-6) st := by
          by_cases m : Sg sg le (st + 2) = 45
          · rw [if_pos m] at m2 ⊢; omega
          · rw [if_neg m] at m2 ⊢; omega
        unfold dOO
        rw [es, e5, dN_step (by omega), ← dN_nN 3 _ _ (by omega) hnd]
        rw [show 10 * 0 + Sg sg le (q4S sg le (-6) st) - 48 = Lt sg le (q4S sg le (-6) st) - 48 by omega]
    · have eS : roS sg le (-6) st = q3S sg le (-6) st := by
        unfold roS
        rw [if_neg w1, if_pos (by omega)]
      have eD : ∀ (od : Int → Int) (om : Int), roD sg le (-6) st od om = roD3 sg le (-6) st od om := fun od om => by
        unfold roD
        rw [if_neg w1, if_pos (by omega)]
      rw [eS]
      refine ⟨h3le, hsign, hst.1, fun od om => ?_⟩
      rw [eD, (hD1 od om).1, (hD1 od om).2.1, (hD1 od om).2.2]
      exact ⟨rfl, fun _ => ⟨by omega, m1⟩, fun q => absurd q w1⟩
  · have eW : roW sg le (-6) st = q1W sg le (-6) st := by
      unfold roW
      rw [if_neg (by omega), if_neg (by omega)]
    have eS : roS sg le (-6) st = st + 1 := by
      unfold roS
      rw [if_neg (by omega), if_neg (by omega), e1S]
    rw [eW] at h
    have hc := zb_of (wW_ok h hs.1).2
    have hst := hSL st hs.1 (by omega)
    rw [eS]
    refine ⟨by omega, fun p a b => by rw [show p = st by omega]; omega, hst.1, fun od om => ?_⟩
    have eD : roD sg le (-6) st od om = iU od (4 * om) (Lt sg le st) := by
      unfold roD
      rw [if_neg (by omega), if_neg (by omega)]
    rw [eD, iU_same]
    exact ⟨rfl, fun q => absurd q w, fun q => absurd (Or.inl q) w⟩
theorem rpN_odd {ty : Int} {pd : Int → Int} : ∀ (k : Nat) (st om : Int) (od : Int → Int) (j : Int), j < 4 * om → (rpN pd ty k st om od).2.2.2 j = od j
  | 0, st, om, od, j, h => rfl
  | k + 1, st, om, od, j, h => by
    by_cases c1 : roW pd ty (-6) st = -6 ∧ roS pd ty (-6) st < ty
    · by_cases c2 : Lt pd ty (roS pd ty (-6) st) = 59
      · rw [rpN_c k c1 c2, rpN_odd k _ _ _ j (by omega)]
        exact roD_old od h
      · rw [rpN_b k c1 c2]
        exact roD_old od h
    · rw [rpN_a k c1]
      exact roD_old od h
theorem rpN_om {ty : Int} {pd : Int → Int} : ∀ (k : Nat) (st om : Int) (od : Int → Int), om ≤ (rpN pd ty k st om od).2.2.1
  | 0, st, om, od => Int.le_refl _
  | k + 1, st, om, od => by
    by_cases c1 : roW pd ty (-6) st = -6 ∧ roS pd ty (-6) st < ty
    · by_cases c2 : Lt pd ty (roS pd ty (-6) st) = 59
      · rw [rpN_c k c1 c2]
        have := rpN_om (pd := pd) (ty := ty) k (roS pd ty (-6) st + 1) (om + 1) (roD pd ty (-6) st od om)
        omega
      · rw [rpN_b k c1 c2]
        dsimp only
        omega
    · rw [rpN_a k c1]
      dsimp only
      omega
theorem coC_skips {dn : Int} {N : zSt} : ∀ (m : Nat) (ps : Int), ps + m ≤ le → (∀ p : Int, ps ≤ p → p < ps + m → ¬ (p = 0 ∨ Sg sg le (p - 1) = 59)) → coC sg le (le - ps).toNat ps dn N = coC sg le (le - (ps + m)).toNat (ps + m) dn N
  | 0, ps, _, _ => by rw [show ps + ((0 : Nat) : Int) = ps by omega]
  | m + 1, ps, h, hp => by
    rw [coC_skip (by omega) (hp ps (by omega) (by omega)), coC_skips m (ps + 1) (by omega) (fun p a b => hp p (by omega) (by omega))]
    rw [show ps + 1 + (m : Int) = ps + ((m + 1 : Nat) : Int) by omega]
/-- the orders, one after the other -/
theorem co_sim (hle : le ≤ 80) : ∀ (k : Nat) (st om : Int) (od : Int → Int) (N : zSt) (z : Int → Int) (B : Int) (kk : Nat), 0 ≤ st → st ≤ le → 0 ≤ om → 81 - st ≤ k → (st = 0 ∨ Sg sg le (st - 1) = 59) → (rpN sg le k st om od).1 = -6 → RT B N z → B + k ≤ 1000000000 → (rpN sg le k st om od).2.2.1 - om ≤ kk → (coC sg le (le - st).toNat st om N).1 = (coN (rpN sg le k st om od).2.2.2 (rpN sg le k st om od).2.2.1 kk z om).2 ∧ RT (B + k) (coC sg le (le - st).toNat st om N).2 (coN (rpN sg le k st om od).2.2.2 (rpN sg le k st om od).2.2.1 kk z om).1
  | 0, st, om, od, N, z, B, kk, h0, h1, _, h2, _, _, _, _, _ => absurd h2 (by omega)
  | k + 1, st, om, od, N, z, B, kk, h0, h1, hom, h2, hst, hr, hR, hB, hkk => by
    have hgt := roS_gt (pd := sg) (ty := le) (st := st) (by omega)
    have hodd := fun j (hj : j < 4 * (om + 1)) (od' : Int → Int) (st' : Int) => rpN_odd (pd := sg) (ty := le) k st' (om + 1) od' j hj
    -- the order at st is the one at index om
    have key : ∀ (odF : Int → Int) (omF : Int), roW sg le (-6) st = -6 → ¬ (roS sg le (-6) st < le ∧ 48 ≤ sg (roS sg le (-6) st) ∧ sg (roS sg le (-6) st) ≤ 57) → (∀ j : Int, j < 4 * (om + 1) → odF j = roD sg le (-6) st od om j) → om < omF → omF - om ≤ kk →
        (∀ (N1 : zSt) (z1 : Int → Int) (kk1 : Nat), RT (B + 1) N1 z1 → omF - (om + 1) ≤ kk1 → (coC sg le (le - (st + 1)).toNat (st + 1) (om + 1) N1).1 = (coN odF omF kk1 z1 (om + 1)).2 ∧ RT (B + ((k + 1 : Nat) : Int)) (coC sg le (le - (st + 1)).toNat (st + 1) (om + 1) N1).2 (coN odF omF kk1 z1 (om + 1)).1) →
        (coC sg le (le - st).toNat st om N).1 = (coN odF omF kk z om).2 ∧ RT (B + ((k + 1 : Nat) : Int)) (coC sg le (le - st).toNat st om N).2 (coN odF omF kk z om).1 := by
      intro odF omF hw hnd hF hlt hk hgo
      obtain ⟨⟨r1, r2⟩, r3, r4, r5⟩ := ord_ok ⟨h0, h1⟩ hle hw hnd
      obtain ⟨o0, o1, o2⟩ := r5 od om
      have f0 := hF (4 * om) (by omega)
      have f1 := hF (4 * om + 1) (by omega)
      have f2 := hF (4 * om + 2) (by omega)
      have f3 := hF (4 * om + 3) (by omega)
      have ho := ro_ok (pd := sg) (ty := le) (st := st) (by omega) hw od hom
      rw [← f0, ← f1, ← f2, ← f3] at ho
      have e0 : Sg sg le st = odF (4 * om) := by rw [f0, o0, r4]
      have hs := order_sim (c := odF (4 * om)) (g := odF (4 * om + 1)) (n := odF (4 * om + 2)) (d := odF (4 * om + 3)) (g1 := Sg sg le (st + 1) - 48) (n1 := nOO sg le st) (d1 := dOO sg le st) hR.eta (by omega) ho (fun q => by rw [f1, f2]; exact o1 (by rw [← r4, e0]; exact q)) (fun q => by rw [f3]; exact o2 (by rw [← r4, e0]; exact q))
      rw [← e0] at hs
      obtain ⟨kk', rfl⟩ : ∃ n : Nat, kk = n + 1 := ⟨kk - 1, by omega⟩
      by_cases c : canP z (odF (4 * om)) (odF (4 * om + 1)) (odF (4 * om + 2))
      · rw [← e0] at c
        obtain ⟨s1, s2⟩ := hs.1 c
        rw [coC_go (by omega) hst s1, coN_step (by rw [← e0]; exact ⟨hlt, c⟩), ← e0]
        exact hgo _ _ kk' s2 (by omega)
      · rw [← e0] at c
        obtain ⟨s1, s2⟩ := hs.2 c
        rw [coC_err (by omega) hst s1, coN_stop (by rw [← e0]; exact fun q => c q.2)]
        exact ⟨rfl, s2.le (by omega)⟩
    by_cases c1 : roW sg le (-6) st = -6 ∧ roS sg le (-6) st < le
    · by_cases c2 : Lt sg le (roS sg le (-6) st) = 59
      · rw [rpN_c k c1 c2] at hr hkk ⊢
        have hs59 : sg (roS sg le (-6) st) = 59 := by rw [← Lt_in (sg := sg) c1.2]; exact c2
        have hS59 : Sg sg le (roS sg le (-6) st) = 59 := (if_pos ⟨by omega, c1.2⟩ : Sg sg le (roS sg le (-6) st) = sg (roS sg le (-6) st)).trans hs59
        have hmono := rpN_om (pd := sg) (ty := le) k (roS sg le (-6) st + 1) (om + 1) (roD sg le (-6) st od om)
        have hnd : ¬ (roS sg le (-6) st < le ∧ 48 ≤ sg (roS sg le (-6) st) ∧ sg (roS sg le (-6) st) ≤ 57) := by omega
        have hook := ord_ok ⟨h0, h1⟩ hle c1.1 hnd
        refine key _ _ c1.1 hnd (fun j hj => hodd j hj _ _) (by omega) hkk (fun N1 z1 kk1 hR1 hk1 => ?_)
        have hsk := coC_skips (sg := sg) (le := le) (dn := om + 1) (N := N1) (roS sg le (-6) st - st).toNat (st + 1) (by omega) (fun p a b q => by
          rcases q with q | q
          · omega
          · exact hook.2.1 (p - 1) (by omega) (by omega) q)
        rw [show st + 1 + (((roS sg le (-6) st - st).toNat : Nat) : Int) = roS sg le (-6) st + 1 by omega] at hsk
        rw [hsk]
        have hih := co_sim hle k (roS sg le (-6) st + 1) (om + 1) (roD sg le (-6) st od om) N1 z1 (B + 1) kk1 (by omega) (by omega) (by omega) (by omega) (Or.inr (by rw [show roS sg le (-6) st + 1 - 1 = roS sg le (-6) st by omega]; exact hS59)) hr hR1 (by omega) hk1
        exact ⟨hih.1, hih.2.le (by omega)⟩
      · rw [rpN_b k c1 c2] at hr
        exact absurd hr (by dsimp only; omega)
    · rw [rpN_a k c1] at hr hkk ⊢
      have hw : roW sg le (-6) st = -6 := hr
      have hnd : ¬ (roS sg le (-6) st < le ∧ 48 ≤ sg (roS sg le (-6) st) ∧ sg (roS sg le (-6) st) ≤ 57) := fun q => c1 ⟨hw, q.1⟩
      have hook := ord_ok ⟨h0, h1⟩ hle hw hnd
      have hend : roS sg le (-6) st = le := by
        have := hook.1.1
        by_cases q : roS sg le (-6) st < le
        · exact absurd ⟨hw, q⟩ c1
        · omega
      refine key _ _ hw hnd (fun j hj => rfl) (by dsimp only; omega) hkk (fun N1 z1 kk1 hR1 hk1 => ?_)
      have hsk := coC_skips (sg := sg) (le := le) (dn := om + 1) (N := N1) (le - (st + 1)).toNat (st + 1) (by omega) (fun p a b q => by
        rcases q with q | q
        · omega
        · exact hook.2.1 (p - 1) (by omega) (by omega) q)
      rw [show st + 1 + (((le - (st + 1)).toNat : Nat) : Int) = le by omega] at hsk
      rw [hsk, coC_end (Int.le_refl le), coN_stop (fun q => by have q1 := q.1; dsimp only at q1; omega)]
      exact ⟨rfl, hR1.le (by omega)⟩
theorem carry_sim {N : zSt} {z : Int → Int} {B : Int} (hle : 0 ≤ le ∧ le ≤ 80) (od : Int → Int) (hc : (rp sg le od).1 = -6) (hR : RT B N z) (hB : B ≤ 100000000) : (coC sg le le.toNat 0 0 N).1 = (coR z (rp sg le od).2.2.2 (rp sg le od).2.2.1).2 ∧ RT (B + 81) (coC sg le le.toNat 0 0 N).2 (coR z (rp sg le od).2.2.2 (rp sg le od).2.2.1).1 := by
  have h := co_sim (sg := sg) hle.2 81 0 0 od N z B (rp sg le od).2.2.1.toNat (by omega) hle.1 (by omega) (by omega) (Or.inl rfl) hc hR (by omega) (by have := rpN_om (pd := sg) (ty := le) 81 0 0 od; unfold rp; omega)
  rw [show le - 0 = le by omega] at h
  exact h
end
-- put, on both sides
theorem nC_pNm : ∀ (k : Nat) (r f : Int) (m : Nat), 0 ≤ r → r < 256 ^ k → r ≤ m → 0 ≤ f → nC k r f = (if (pNm m r f).2 = 1 then (pNm m r f).1 else 0) ∧ ((pNm m r f).2 = 0 ∨ (pNm m r f).2 = 1) ∧ f ≤ (pNm m r f).1
  | 0, r, f, m, h0, h1, hm, hf => by
    have hr : r = 0 := by
      have : (256 : Int) ^ 0 = 1 := rfl
      omega
    subst hr
    have e : pNm m 0 f = (f, 1) := by
      cases m with
      | zero => rfl
      | succ m => exact if_pos rfl
    rw [e]
    exact ⟨rfl, Or.inr rfl, Int.le_refl _⟩
  | k + 1, r, f, m, h0, h1, hm, hf => by
    by_cases r0 : r = 0
    · subst r0
      have e : pNm m 0 f = (f, 1) := by
        cases m with
        | zero => rfl
        | succ m => exact if_pos rfl
      rw [e, nC_z (show (0 : Int) % 256 = 0 from rfl)]
      exact ⟨rfl, Or.inr rfl, Int.le_refl _⟩
    · obtain ⟨m', rfl⟩ : ∃ n : Nat, m = n + 1 := ⟨m - 1, by omega⟩
      by_cases g : 33 ≤ r % 256 ∧ r % 256 ≤ 126
      · have e : pNm (m' + 1) r f = pNm m' (r / 256) (f + 1) := by
          show (if r = 0 then (f, 1) else if 33 ≤ r % 256 ∧ r % 256 ≤ 126 then pNm m' (r / 256) (f + 1) else (f + 1, 0)) = _
          rw [if_neg r0, if_pos g]
        have e2 : nC (k + 1) r f = nC k (r / 256) (f + 1) := by
          rw [nC_un, if_pos (by omega), if_neg (by omega)]
        have hp : (256 : Int) ^ (k + 1) = 256 ^ k * 256 := Int.pow_succ _ _
        have ih := nC_pNm k (r / 256) (f + 1) m' (by omega) (by omega) (by omega) (by omega)
        rw [e, e2]
        exact ⟨ih.1, ih.2.1, by omega⟩
      · have e : pNm (m' + 1) r f = (f + 1, 0) := by
          show (if r = 0 then (f, 1) else if 33 ≤ r % 256 ∧ r % 256 ≤ 126 then pNm m' (r / 256) (f + 1) else (f + 1, 0)) = _
          rw [if_neg r0, if_neg g]
        rw [e]
        refine ⟨?_, Or.inl rfl, by dsimp only; omega⟩
        rw [if_neg (show ¬ (0 : Int) = 1 by omega)]
        by_cases b : r % 256 = 0
        · rw [nC_z b, if_neg r0]
        · rw [nC_un, if_pos b, if_pos (by omega)]
/-- the characters that are put are such -/
theorem nC_ch : ∀ (k : Nat) (r f : Int), 0 ≤ r → 0 ≤ f → ∀ i : Nat, f + i < nC k r f → 33 ≤ r / 256 ^ i % 256 ∧ r / 256 ^ i % 256 ≤ 126
  | 0, r, f, h0, hf, i, hi => absurd hi (by
    show ¬ f + i < (if r = 0 then f else 0)
    split <;> omega)
  | k + 1, r, f, h0, hf, i, hi => by
    by_cases b : r % 256 = 0
    · rw [nC_z b] at hi
      exact absurd hi (by split <;> omega)
    · by_cases g : r % 256 < 33 ∨ 126 < r % 256
      · rw [nC_un, if_pos b, if_pos g] at hi
        exact absurd hi (by omega)
      · rw [nC_un, if_pos b, if_neg g] at hi
        cases i with
        | zero =>
          rw [show (256 : Int) ^ 0 = 1 from rfl, Int.ediv_one]
          omega
        | succ i =>
          have := nC_ch k (r / 256) (f + 1) (by omega) (by omega) i (by omega)
          rw [show (256 : Int) ^ (i + 1) = 256 * 256 ^ i by rw [Int.pow_succ, Int.mul_comm], ← Int.ediv_ediv_of_nonneg (by omega)]
          exact this
theorem chA_ok {u : Int} {i : Nat} (h : 33 ≤ u / 256 ^ i % 256 ∧ u / 256 ^ i % 256 ≤ 126) : 33 ≤ chA u (8 * (i : Int)) ∧ chA u (8 * (i : Int)) ≤ 126 := by
  unfold chA
  rw [show (8 * (i : Int)).toNat = 8 * i by omega, show (2 : Int) ^ (8 * i) = 256 ^ i by rw [Int.pow_mul]; rfl]
  exact h
theorem apS_at {sg : Int → Int} {le u mo : Int} : ∀ (n : Nat) (j : Int), itr (fun k y => iU y (le + k) (chA u (8 * (mo - 1 - k)))) sg n j = if le ≤ j ∧ j < le + n then chA u (8 * (mo - 1 - (j - le))) else sg j := itr_cpb sg (fun k => chA u (8 * (mo - 1 - k))) le
theorem PD_apS {sg : Int → Int} {le u : Int} (h : PD sg le) (hle : 0 ≤ le) (hu : 0 ≤ u) : PD (apS sg le u (nC 8 u 0)) (le + nC 8 u 0) := by
  intro j a b
  have hn := nC_rg 8 u 0 (by omega)
  unfold apS
  rw [apS_at]
  by_cases c : le ≤ j ∧ j < le + (((nC 8 u 0).toNat : Nat) : Int)
  · rw [if_pos c]
    have hc := nC_ch 8 u 0 hu (Int.le_refl 0) (nC 8 u 0 - 1 - (j - le)).toNat (by omega)
    have hr := chA_ok hc
    rw [show (((nC 8 u 0 - 1 - (j - le)).toNat : Nat) : Int) = nC 8 u 0 - 1 - (j - le) by omega] at hr
    omega
  · rw [if_neg c]
    exact h j a (by omega)
