-- the pad: its fault on both sides
theorem PB_end {pl : Int} (h : 1 ≤ pl ∧ pl ≤ 13) : PB pl (-6) = 0 := by
  rcases (show pl = 1 ∨ pl = 2 ∨ pl = 3 ∨ pl = 4 ∨ pl = 5 ∨ pl = 6 ∨ pl = 7 ∨ pl = 8 ∨ pl = 9 ∨ pl = 10 ∨ pl = 11 ∨ pl = 12 ∨ pl = 13 by omega) with rfl | rfl | rfl | rfl | rfl | rfl | rfl | rfl | rfl | rfl | rfl | rfl | rfl <;> rfl
/-- behind an order -/
def cE (sg : Int → Int) (le ps : Int) : Int := if ps < le then (if sg ps = 59 then cFN sg le (le - (ps + 1)).toNat 1 (ps + 1) else ps) else -6
section
variable {sg : Int → Int} {le ps pl st v wr : Int}
theorem Lt_in (h : ps < le) : Lt sg le ps = sg ps := if_pos h
theorem Lt_out (h : ¬ ps < le) : Lt sg le ps = -6 := if_neg h
theorem Lt_lt (h : ¬ Lt sg le ps = -6) : ps < le ∧ Lt sg le ps = sg ps := by
  by_cases c : ps < le
  · exact ⟨c, Lt_in c⟩
  · exact absurd (Lt_out c) h
theorem cFN_st (h0 : ps ≤ le) (hp : 1 ≤ pl ∧ pl < 10) : cFN sg le (le - ps).toNat pl ps = if PB pl (Lt sg le ps) = 0 then ps else cFN sg le (le - (ps + 1)).toNat (PB pl (Lt sg le ps)) (ps + 1) := by
  by_cases c : ps < le
  · rw [Lt_in c]
    by_cases b : PB pl (sg ps) = 0
    · rw [cFN_bad (by omega) b, if_pos b]
    · rw [cFN_step (by omega) b, if_neg b]
  · rw [Lt_out c, if_pos (PB_end (by omega)), cFN_end (by omega), if_neg (by omega)]
    omega
theorem cFN_bad' (h0 : ps ≤ le) (hp : 1 ≤ pl ∧ pl < 10) (hb : PB pl (Lt sg le ps) = 0) : cFN sg le (le - ps).toNat pl ps = ps := by
  rw [cFN_st h0 hp, if_pos hb]
theorem cFN_go {p2 : Int} (h0 : ps ≤ le) (hp : 1 ≤ pl ∧ pl < 10) (hb : PB pl (Lt sg le ps) = p2) (h2 : ¬ p2 = 0) : cFN sg le (le - ps).toNat pl ps = cFN sg le (le - (ps + 1)).toNat p2 (ps + 1) := by
  rw [cFN_st h0 hp, hb, if_neg h2]
theorem cFN_13 : cFN sg le (le - ps).toNat 13 ps = cE sg le ps := by
  unfold cE
  by_cases c : ps < le
  · have e : PB 13 (sg ps) = if sg ps = 59 then 1 else 0 := rfl
    rw [if_pos c]
    by_cases b : sg ps = 59
    · rw [if_pos b] at e
      rw [if_pos b, cFN_step (by omega) (by omega), e]
    · rw [if_neg b] at e
      rw [if_neg b, cFN_bad (by omega) e]
  · rw [if_neg c, cFN_end (by omega), if_pos (by omega)]
theorem num_step {f : Nat} (hp : 10 ≤ pl) (hPB : ∀ k : Int, PB pl k = if 48 ≤ k ∧ k ≤ 57 then pl + 1 else pO k) (hv : 1 ≤ v) (hb : 10 * v + 9 ≤ 9999) (ih : ∀ w : Int, 10 * v ≤ w → w ≤ 10 * v + 9 → cFN sg le (le - (ps + 1)).toNat (pl + 1) (ps + 1) = cE sg le (nN sg le f w (ps + 1)).2) : cFN sg le (le - ps).toNat pl ps = cE sg le (nN sg le (f + 1) v ps).2 := by
  by_cases c : ps < le
  · by_cases d : 48 ≤ sg ps ∧ sg ps ≤ 57
    · have e := hPB (sg ps)
      rw [if_pos d] at e
      have el := Lt_in (sg := sg) c
      rw [nN_step (by omega), cFN_step (by omega) (by omega), e]
      exact ih _ (by omega) (by omega)
    · have e := hPB (sg ps)
      rw [if_neg d] at e
      have el := Lt_in (sg := sg) c
      rw [nN_stop (by omega)]
      have e3 : PB 13 (sg ps) = pO (sg ps) := rfl
      show _ = cE sg le ps
      rw [← cFN_13]
      by_cases b : pO (sg ps) = 0
      · rw [cFN_bad (by omega) (by omega), cFN_bad (by omega) (by omega)]
      · have a1 := cFN_step (sg := sg) (le := le) (pl := pl) (ps := ps) (by omega) (by omega)
        have a2 := cFN_step (sg := sg) (le := le) (pl := 13) (ps := ps) (by omega) (by omega)
        rw [a1, a2, e, e3]
  · rw [nN_stop (by rw [Lt_out c]; omega), cFN_end (by omega), if_pos hp]
    unfold cE
    rw [if_neg c]
theorem num0 : cFN sg le (le - ps).toNat 13 ps = cE sg le (nN sg le 0 v ps).2 := cFN_13
theorem num1 (h : 1 ≤ v ∧ v ≤ 999) : cFN sg le (le - ps).toNat 12 ps = cE sg le (nN sg le 1 v ps).2 := num_step (by omega) (fun _ => rfl) h.1 (by omega) (fun _ _ _ => num0)
theorem num2 (h : 1 ≤ v ∧ v ≤ 99) : cFN sg le (le - ps).toNat 11 ps = cE sg le (nN sg le 2 v ps).2 := num_step (by omega) (fun _ => rfl) h.1 (by omega) (fun w a b => num1 (by omega))
theorem num3 (h : 1 ≤ v ∧ v ≤ 9) : cFN sg le (le - ps).toNat 10 ps = cE sg le (nN sg le 3 v ps).2 := num_step (by omega) (fun _ => rfl) h.1 (by omega) (fun w a b => num2 (by omega))
-- what a fault behind leaves
theorem wS_no (h : ¬ wr = -6) : wS wr st = st := if_neg h
theorem wS_go : wS (-6) st = st + 1 := if_pos rfl
theorem wW_no {b : Int} (h : ¬ wr = -6) : wW b wr st = wr := if_neg (fun q => h q.1)
theorem wW_t {P : Prop} [Decidable P] (h : P) : wW (zb P) (-6) st = -6 := by rw [zb_t h]; exact if_neg (fun q => absurd q.2 (by omega))
theorem wW_f {P : Prop} [Decidable P] (h : ¬ P) : wW (zb P) (-6) st = st := by rw [zb_f h]; exact if_pos ⟨rfl, rfl⟩
theorem dW_no {lo hi c : Int} (h : ¬ wr = -6) : dW lo hi c wr st = wr := wW_no h
theorem naW_no {pd : Int → Int} {ty : Int} (h : ¬ wr = -6) : naW pd ty wr st = wr := by
  unfold naW naW1
  rw [wW_no h]
  split
  · exact dW_no h
  · rfl
/-- a group and a name -/
theorem gn_fault {a b c e s1 : Int} (hs : 0 ≤ s1 ∧ s1 ≤ le) (ha : 1 ≤ a ∧ a < 10) (hb : 1 ≤ b ∧ b < 10) (hc : 1 ≤ c ∧ c < 10) (he : ¬ e = 0) (pa : ∀ k : Int, PB a k = if 48 ≤ k ∧ k ≤ 53 then b else 0) (pb : ∀ k : Int, PB b k = pN k c e) (pc : ∀ k : Int, PB c k = if 49 ≤ k ∧ k ≤ 55 then e else 0) : cFN sg le (le - s1).toNat a s1 = if naW sg le (dW 0 5 (Lt sg le s1) (-6) s1) (wS (-6) s1) = -6 then cFN sg le (le - naS sg le (dW 0 5 (Lt sg le s1) (-6) s1) (wS (-6) s1)).toNat e (naS sg le (dW 0 5 (Lt sg le s1) (-6) s1) (wS (-6) s1)) else naW sg le (dW 0 5 (Lt sg le s1) (-6) s1) (wS (-6) s1) := by
  have p1 := pa (Lt sg le s1)
  rw [wS_go]
  by_cases g1 : 48 ≤ Lt sg le s1 ∧ Lt sg le s1 ≤ 53
  · rw [if_pos g1] at p1
    have l1 := Lt_lt (sg := sg) (le := le) (ps := s1) (by omega)
    have d1 : dW 0 5 (Lt sg le s1) (-6) s1 = -6 := wW_t (by omega)
    rw [cFN_go hs.2 ha p1 (by omega), d1]
    have p2 := pb (Lt sg le (s1 + 1))
    unfold pN at p2
    by_cases m : Lt sg le (s1 + 1) = 45
    · rw [if_pos m] at p2
      have l2 := Lt_lt (sg := sg) (le := le) (ps := s1 + 1) (by omega)
      have n1 : naW1 sg le (-6) (s1 + 1) = -6 := wW_t (by omega)
      rw [cFN_go (by omega) hb p2 (by omega)]
      unfold naW naS
      rw [if_pos m, if_pos m, n1, wS_go, wS_go]
      have p3 := pc (Lt sg le (s1 + 1 + 1))
      by_cases g3 : 49 ≤ Lt sg le (s1 + 1 + 1) ∧ Lt sg le (s1 + 1 + 1) ≤ 55
      · rw [if_pos g3] at p3
        have d3 : dW 1 7 (Lt sg le (s1 + 1 + 1)) (-6) (s1 + 1 + 1) = -6 := wW_t (by omega)
        rw [cFN_go (by omega) hc p3 he, d3, if_pos rfl]
      · rw [if_neg g3] at p3
        have d3 : dW 1 7 (Lt sg le (s1 + 1 + 1)) (-6) (s1 + 1 + 1) = s1 + 1 + 1 := wW_f (by omega)
        rw [cFN_bad' (by omega) hc p3, d3, if_neg (by omega)]
    · rw [if_neg m] at p2
      by_cases m2 : Lt sg le (s1 + 1) = 48 ∨ Lt sg le (s1 + 1) = 43
      · rw [if_pos m2] at p2
        have n1 : naW1 sg le (-6) (s1 + 1) = -6 := wW_t (by omega)
        rw [cFN_go (by omega) hb p2 he]
        unfold naW naS
        rw [if_neg m, if_neg m, n1, if_pos rfl, wS_go]
      · rw [if_neg m2] at p2
        have n1 : naW1 sg le (-6) (s1 + 1) = s1 + 1 := wW_f (by omega)
        rw [cFN_bad' (by omega) hb p2]
        unfold naW
        rw [if_neg m, n1, if_neg (by omega)]
  · rw [if_neg g1] at p1
    have d1 : dW 0 5 (Lt sg le s1) (-6) s1 = s1 := wW_f (by omega)
    rw [cFN_bad' hs.2 ha p1, d1, naW_no (by omega), if_neg (by omega)]
theorem naS_le {s2 : Int} (h : naW sg le (-6) s2 = -6) (h0 : 0 ≤ s2) : naS sg le (-6) s2 ≤ le ∧ s2 < naS sg le (-6) s2 := by
  obtain ⟨-, h1, -⟩ := naW_ok h h0
  have l1 := Lt_lt (sg := sg) (le := le) (ps := s2) (by omega)
  unfold naW at h
  unfold naS
  by_cases m : Lt sg le s2 = 45
  · rw [if_pos m] at h ⊢
    have n1 : naW1 sg le (-6) s2 = -6 := wW_t (by omega)
    rw [n1, wS_go] at h ⊢
    obtain ⟨-, h3, h4⟩ := dW_ok h (by omega)
    have l2 := Lt_lt (sg := sg) (le := le) (ps := s2 + 1) (by omega)
    rw [wS_go]
    omega
  · rw [if_neg m, wS_go]
    omega
theorem ord_fault (h0 : 0 ≤ st ∧ st ≤ le) : cFN sg le (le - st).toNat 1 st = if roW sg le (-6) st = -6 then cE sg le (roS sg le (-6) st) else roW sg le (-6) st := by
  have p1 : PB 1 (Lt sg le st) = pL (Lt sg le st) := rfl
  unfold pL at p1
  have e1S : q1S (-6) st = st + 1 := wS_go
  by_cases c1 : Lt sg le st = 119 ∨ Lt sg le st = 114 ∨ Lt sg le st = 100 ∨ Lt sg le st = 106 ∨ Lt sg le st = 103 ∨ Lt sg le st = 102 ∨ Lt sg le st = 97
  · have e1W : q1W sg le (-6) st = -6 := wW_t c1
    have l1 := Lt_lt (sg := sg) (le := le) (ps := st) (by omega)
    by_cases j : Lt sg le st = 106 ∨ Lt sg le st = 103 ∨ Lt sg le st = 102 ∨ Lt sg le st = 97
    · rw [if_pos j] at p1
      have eW : roW sg le (-6) st = -6 := by
        unfold roW
        rw [if_neg (by omega), if_neg (by omega), e1W]
      have eS : roS sg le (-6) st = st + 1 := by
        unfold roS
        rw [if_neg (by omega), if_neg (by omega), e1S]
      rw [eW, eS, if_pos rfl, cFN_go h0.2 (by omega) p1 (by omega), cFN_13]
    · rw [if_neg j] at p1
      by_cases w : Lt sg le st = 119
      · rw [if_pos w] at p1
        have hg := gn_fault (sg := sg) (le := le) (a := 3) (b := 5) (c := 7) (e := 8) (s1 := st + 1) (by omega) (by omega) (by omega) (by omega) (by omega) (fun _ => rfl) (fun _ => rfl) (fun _ => rfl)
        have e2W : dW 0 5 (Lt sg le (st + 1)) (-6) (st + 1) = q2W sg le (-6) st := by unfold q2W; rw [e1W, e1S]
        have e2S : wS (-6) (st + 1) = q2S sg le (-6) st := by unfold q2S; rw [e1W, e1S]
        have e3W : naW sg le (q2W sg le (-6) st) (q2S sg le (-6) st) = q3W sg le (-6) st := rfl
        have e3S : naS sg le (q2W sg le (-6) st) (q2S sg le (-6) st) = q3S sg le (-6) st := rfl
        rw [e2W, e2S, e3W, e3S] at hg
        unfold roW roS
        rw [if_pos w, if_pos w, cFN_go h0.2 (by omega) p1 (by omega), hg]
        have hq := q_rg (pd := sg) (ty := le) (wr := -6) (st := st)
        by_cases b3 : q3W sg le (-6) st = -6
        · have b2 : q2W sg le (-6) st = -6 := (naW_ok b3 (by rw [← e2S, wS_go]; omega)).1
          have hl := naS_le (sg := sg) (le := le) (s2 := q2S sg le (-6) st) (by rw [b2] at e3W; exact e3W.trans b3) (by rw [← e2S, wS_go]; omega)
          rw [b2] at e3S
          rw [e3S] at hl
          have h2S : 0 ≤ q2S sg le (-6) st := by rw [← e2S, wS_go]; omega
          rw [if_pos b3]
          have p4 : PB 8 (Lt sg le (q3S sg le (-6) st)) = if Lt sg le (q3S sg le (-6) st) = 61 then 9 else 0 := rfl
          by_cases q : Lt sg le (q3S sg le (-6) st) = 61
          · rw [if_pos q] at p4
            have l4 := Lt_lt (sg := sg) (le := le) (ps := q3S sg le (-6) st) (by omega)
            have e4W : q4W sg le (-6) st = -6 := by unfold q4W; rw [b3]; exact wW_t q
            have e4S : q4S sg le (-6) st = q3S sg le (-6) st + 1 := by unfold q4S; rw [b3]; exact wS_go
            rw [cFN_go (by omega) (by omega) p4 (by omega), ← e4S]
            have p5 : PB 9 (Lt sg le (q4S sg le (-6) st)) = if Lt sg le (q4S sg le (-6) st) = 48 then 13 else if 48 ≤ Lt sg le (q4S sg le (-6) st) ∧ Lt sg le (q4S sg le (-6) st) ≤ 57 then 10 else 0 := rfl
            unfold q5W q5S nR
            rw [e4W]
            by_cases d : 0 ≤ Lt sg le (q4S sg le (-6) st) - 48 ∧ Lt sg le (q4S sg le (-6) st) - 48 ≤ 9
            · have d5 : dW 0 9 (Lt sg le (q4S sg le (-6) st)) (-6) (q4S sg le (-6) st) = -6 := wW_t d
              rw [d5, if_pos rfl, if_pos rfl, wS_go]
              by_cases z0 : Lt sg le (q4S sg le (-6) st) = 48
              · rw [if_pos z0] at p5
                rw [cFN_go (by omega) (by omega) p5 (by omega), cFN_13, nN_stop (by omega)]
              · rw [if_neg z0, if_pos (by omega)] at p5
                rw [cFN_go (by omega) (by omega) p5 (by omega), num3 (v := Lt sg le (q4S sg le (-6) st) - 48) (by omega)]
            · have d5 : dW 0 9 (Lt sg le (q4S sg le (-6) st)) (-6) (q4S sg le (-6) st) = q4S sg le (-6) st := wW_f d
              rw [if_neg (by omega), if_neg (by omega)] at p5
              rw [d5, cFN_bad' (by omega) (by omega) p5, if_neg (by omega)]
          · rw [if_neg q] at p4
            have e4W : q4W sg le (-6) st = q3S sg le (-6) st := by unfold q4W; rw [b3]; exact wW_f q
            have e5W : q5W sg le (-6) st = q3S sg le (-6) st := by unfold q5W; rw [e4W]; exact dW_no (by omega)
            rw [cFN_bad' (by omega) (by omega) p4, e5W, if_neg (by omega)]
        · have e4W : q4W sg le (-6) st = q3W sg le (-6) st := wW_no b3
          have e5W : q5W sg le (-6) st = q3W sg le (-6) st := by unfold q5W; rw [e4W]; exact dW_no b3
          rw [if_neg b3, e5W, if_neg b3]
      · have rd : Lt sg le st = 114 ∨ Lt sg le st = 100 := by omega
        rw [if_neg w, if_pos rd] at p1
        have hg := gn_fault (sg := sg) (le := le) (a := 2) (b := 4) (c := 6) (e := 13) (s1 := st + 1) (by omega) (by omega) (by omega) (by omega) (by omega) (fun _ => rfl) (fun _ => rfl) (fun _ => rfl)
        have e2W : dW 0 5 (Lt sg le (st + 1)) (-6) (st + 1) = q2W sg le (-6) st := by unfold q2W; rw [e1W, e1S]
        have e2S : wS (-6) (st + 1) = q2S sg le (-6) st := by unfold q2S; rw [e1W, e1S]
        have e3W : naW sg le (q2W sg le (-6) st) (q2S sg le (-6) st) = q3W sg le (-6) st := rfl
        have e3S : naS sg le (q2W sg le (-6) st) (q2S sg le (-6) st) = q3S sg le (-6) st := rfl
        rw [e2W, e2S, e3W, e3S] at hg
        unfold roW roS
        rw [if_neg w, if_pos rd, if_neg w, if_pos rd, cFN_go h0.2 (by omega) p1 (by omega), hg, cFN_13]
  · have e1W : q1W sg le (-6) st = st := wW_f c1
    rw [if_neg (by omega), if_neg (by omega), if_neg (by omega)] at p1
    have eW : roW sg le (-6) st = st := by
      unfold roW
      rw [if_neg (by omega), if_neg (by omega), e1W]
    rw [eW, if_neg (by omega), cFN_bad' h0.2 (by omega) p1]
end
section
variable {sg : Int → Int} {le : Int}
theorem fault_sim (hle : le ≤ 80) : ∀ (k : Nat) (st om : Int) (od : Int → Int), 0 ≤ st → st ≤ le → 81 - st ≤ k → cFN sg le (le - st).toNat 1 st = (rpN sg le k st om od).1
  | 0, st, om, od, h0, h1, h2 => absurd h2 (by omega)
  | k + 1, st, om, od, h0, h1, h2 => by
    have hgt := roS_gt (pd := sg) (ty := le) (st := st) (by omega)
    rw [ord_fault ⟨h0, h1⟩]
    by_cases c1 : roW sg le (-6) st = -6 ∧ roS sg le (-6) st < le
    · have el := Lt_in (sg := sg) c1.2
      rw [if_pos c1.1]
      unfold cE
      rw [if_pos c1.2]
      by_cases c2 : Lt sg le (roS sg le (-6) st) = 59
      · rw [rpN_c k c1 c2, if_pos (by omega)]
        exact fault_sim hle k _ _ _ (by omega) (by omega) (by omega)
      · rw [rpN_b k c1 c2, if_neg (by omega)]
    · rw [rpN_a k c1]
      by_cases c2 : roW sg le (-6) st = -6
      · rw [if_pos c2]
        unfold cE
        rw [if_neg (fun q => c1 ⟨c2, q⟩)]
        exact c2.symm
      · rw [if_neg c2]
theorem cF_rp (h : 0 ≤ le ∧ le ≤ 80) (od : Int → Int) : cF sg le = (rp sg le od).1 := by
  have := fault_sim (sg := sg) h.2 81 0 0 od (by omega) h.1 (by omega)
  rw [show le - 0 = le by omega] at this
  exact this
end
