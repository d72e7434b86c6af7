/-- a state of the class and a row of the model -/
def RT (B : Int) (N : zSt) (z : Int → Int) : Prop := RS B (N.1 0) (N.1 1) (N.1 2) (N.1 3) (N.1 4) (N.1 5) N.2 z ∧ dG N.2
section
variable {B C jb jr lf jf rd vr g n d w c : Int} {G G' : Int → zGr} {z z' : Int → Int} {N : zSt}
theorem RT.le (h : RT B N z) (hB : B ≤ C) : RT C N z := ⟨h.1.le hB, h.2⟩
theorem RT.row (h : RT B N z) (e : ∀ j : Int, 0 ≤ j → j < 367 → z' j = z j) : RT B N z' := ⟨h.1.row e, h.2⟩
theorem RT.mi (h : RT B N z) (hB : B < 2000000000) : MI z := h.1.2.2.1.mi hB
theorem RT.si (h : RT B N z) (hB : B ≤ 1900000000) : SI N.2 := h.1.sib.si hB
theorem RT.ok (h : RT B N z) (hB : B ≤ 1900000000) : okN N := ⟨h.si hB, h.1.2.1.1, h.1.2.1.2.1⟩
theorem RT.z1 (h : RT B (mkN jb jr lf jf rd vr G) z) : z 1 = jr ∧ (jr = 0 ∨ jr = 1) ∧ (jr = 0 → z 2 = lf) ∧ (lf = 0 ∨ lf = 1) ∧ z 0 = jb ∧ (0 ≤ jb ∧ jb ≤ B) := ⟨h.1.1.2.1, h.1.2.1.1, h.1.1.2.2.1, h.1.2.1.2.1, h.1.1.1, h.1.2.1.2.2⟩
/-- copied from another state -/
theorem RT.cp (h : RT B N z) : RT B (mkN (N.1 0) (N.1 1) (N.1 2) (N.1 3) (N.1 4) (N.1 5) (sCp G N.2)) z := ⟨h.1.eqv sCp_rg, dG_eq h.2 sCp_rg⟩
theorem RT.eta (h : RT B N z) : RT B (mkN (N.1 0) (N.1 1) (N.1 2) (N.1 3) (N.1 4) (N.1 5) N.2) z := h
-- each change
theorem k_keep (h : RT B (mkN jb jr lf jf rd vr G) z) (hg : 0 ≤ g ∧ g ≤ 5) (hk : 1 ≤ n ∧ n ≤ 8) : RT B (mkN jb jr lf jf rd vr (gU G g (xK (G g) n))) (mRoll (zs z g 0 n) g) ∧ zg z g 0 = G g 0 0 ∧ 1 ≤ G g 0 0 := ⟨⟨s_keep h.1 hg hk, dG_gU h.2 (dK_xK (h.2 g hg.1 hg.2))⟩, (h.1.rg hg).1.1, (h.1.rg hg).2.2.2.2.2.2.1.2.2.2.1.1⟩
theorem k_write (h : RT B (mkN jb jr lf jf rd vr G) z) (hg : 0 ≤ g ∧ g ≤ 5) (hn : -7 ≤ n ∧ n ≤ 1) (hd : 0 ≤ d ∧ d ≤ 9999) (hB : B < 1999999999) (hw : (n = 1 ∧ (¬ z 1 = 1 ∨ zg z g 5 = 0)) ∨ ¬ mTold z g n = -6) : RT (B + 1) (mkN jb jr lf jf rd vr (if (n = 1 ∧ ¬ (¬ jr = 0 ∧ ¬ G g 0 6 = 0)) then gU G g (xMk (G g) d (if jr = 0 then 0 else jb)) else if thP (G g 0 1) (G g 0 2) (G g 1) (sOf (G g 0 1) (G g 0 5) (G g 0 6) n jr) then gU G g (xDa (G g) (sOf (G g 0 1) (G g 0 5) (G g 0 6) n jr) d) else G)) (mWrite z g n d) ∧ mWriteR z g n d = (if (n = 1 ∧ ¬ (¬ jr = 0 ∧ ¬ G g 0 6 = 0)) then nO (G g 0 1 + 1) else if thP (G g 0 1) (G g 0 2) (G g 1) (sOf (G g 0 1) (G g 0 5) (G g 0 6) n jr) then nO (sOf (G g 0 1) (G g 0 5) (G g 0 6) n jr) else -5) ∧ 0 ≤ mWriteR z g n d := by
  have hs := s_write h.1 hg hn hd hB hw
  refine ⟨⟨hs.1, dG_if (fun _ => dG_gU h.2 (dK_xMk (h.2 g hg.1 hg.2) hd)) (fun _ => dG_if (fun _ => dG_gU h.2 (dK_xDa (h.2 g hg.1 hg.2) hd)) (fun _ => h.2))⟩, hs.2, ?_⟩
  have h0 : RS B jb jr lf jf rd vr G z := h.1
  have hi := w_iff (n := n) h0 hg hn
  rw [hs.2]
  show 0 ≤ (if (n = 1 ∧ ¬ (¬ jr = 0 ∧ ¬ G g 0 6 = 0)) then nO (G g 0 1 + 1) else if thP (G g 0 1) (G g 0 2) (G g 1) (sOf (G g 0 1) (G g 0 5) (G g 0 6) n jr) then nO (sOf (G g 0 1) (G g 0 5) (G g 0 6) n jr) else -5)
  rcases hw with hw | hw
  · rw [if_pos (hi.1.1 hw)]
    exact (nO_rg _).1
  · by_cases c1 : (n = 1 ∧ ¬ (¬ jr = 0 ∧ ¬ G g 0 6 = 0))
    · rw [if_pos c1]
      exact (nO_rg _).1
    · rw [if_neg c1, if_pos (hi.2.1 hw)]
      exact (nO_rg _).1
/-- a write that can't be -/
theorem k_write_no (h : RT B (mkN jb jr lf jf rd vr G) z) (hg : 0 ≤ g ∧ g ≤ 5) (hn : -7 ≤ n ∧ n ≤ 1) (hw : ¬ ((n = 1 ∧ (¬ z 1 = 1 ∨ zg z g 5 = 0)) ∨ ¬ mTold z g n = -6)) : ¬ (n = 1 ∧ ¬ (¬ jr = 0 ∧ ¬ G g 0 6 = 0)) ∧ ¬ thP (G g 0 1) (G g 0 2) (G g 1) (sOf (G g 0 1) (G g 0 5) (G g 0 6) n jr) := by
  have hi := w_iff (n := n) h.1 hg hn
  exact ⟨fun q => hw (Or.inl (hi.1.2 q)), fun q => hw (Or.inr (hi.2.2 q))⟩
theorem k_read (h : RT B (mkN jb jr lf jf rd vr G) z) (hg : 0 ≤ g ∧ g ≤ 5) (hn : -7 ≤ n ∧ n ≤ 1) : RT B (mkN jb jr lf jf (rd + 1) (if ¬ thP (G g 0 1) (G g 0 2) (G g 1) (sOf (G g 0 1) (G g 0 5) (G g 0 6) n jr) then vr + 1 else vr) (if thP (G g 0 1) (G g 0 2) (G g 1) (sOf (G g 0 1) (G g 0 5) (G g 0 6) n jr) then gU G g (xRe (G g) (sOf (G g 0 1) (G g 0 5) (G g 0 6) n jr)) else G)) (mRead z g n) ∧ mReadR z g n = (if thP (G g 0 1) (G g 0 2) (G g 1) (sOf (G g 0 1) (G g 0 5) (G g 0 6) n jr) then G g 1 ((sOf (G g 0 1) (G g 0 5) (G g 0 6) n jr) % 8) else -6) ∧ ¬ (mReadR z g n < 0 ∧ ¬ mReadR z g n = -6) := by
  have hs := s_read h.1 hg hn
  refine ⟨⟨hs.1, dG_if (fun _ => dG_gU h.2 (dK_xRe (h.2 g hg.1 hg.2))) (fun _ => h.2)⟩, hs.2, ?_⟩
  rw [hs.2]
  show ¬ ((if thP (G g 0 1) (G g 0 2) (G g 1) (sOf (G g 0 1) (G g 0 5) (G g 0 6) n jr) then G g 1 ((sOf (G g 0 1) (G g 0 5) (G g 0 6) n jr) % 8) else -6) < 0 ∧ ¬ (if thP (G g 0 1) (G g 0 2) (G g 1) (sOf (G g 0 1) (G g 0 5) (G g 0 6) n jr) then G g 1 ((sOf (G g 0 1) (G g 0 5) (G g 0 6) n jr) % 8) else -6) = -6)
  by_cases t : thP (G g 0 1) (G g 0 2) (G g 1) (sOf (G g 0 1) (G g 0 5) (G g 0 6) n jr)
  · rw [if_pos t]
    exact dG_get h.2 hg
  · rw [if_neg t]
    omega
theorem k_del (h : RT B (mkN jb jr lf jf rd vr G) z) (hg : 0 ≤ g ∧ g ≤ 5) (hn : -7 ≤ n ∧ n ≤ 1) (ht : ¬ mTold z g n = -6) : thP (G g 0 1) (G g 0 2) (G g 1) (sOf (G g 0 1) (G g 0 5) (G g 0 6) n jr) ∧ RT B (mkN jb jr lf jf rd vr (gU G g (xHo (G g) (sOf (G g 0 1) (G g 0 5) (G g 0 6) n jr)))) (mDel z g (mTold z g n)) ∧ zg z g (15 + 5 * (mTold z g n) + 1) = nO (sOf (G g 0 1) (G g 0 5) (G g 0 6) n jr) := by
  have hi := (w_iff (n := n) h.1 hg hn).2.1 ht
  have hi : thP (G g 0 1) (G g 0 2) (G g 1) (sOf (G g 0 1) (G g 0 5) (G g 0 6) n jr) := hi
  have hs : mTold z g n = G g 0 1 - sOf (G g 0 1) (G g 0 5) (G g 0 6) n jr := (s_told h.1 hg hn).trans (if_pos hi)
  have hr := (h.1.rg hg)
  have t1 := hi.1
  have t2 := hi.2.1
  refine ⟨hi, ⟨?_, dG_gU h.2 (dK_xHo (h.2 g hg.1 hg.2))⟩, ?_⟩
  · rw [hs]
    exact s_del h.1 hg hi
  · have hp : zg z g (15 + 5 * (G g 0 1 - sOf (G g 0 1) (G g 0 5) (G g 0 6) n jr) + 1) = nO (G g 0 1 - (G g 0 1 - sOf (G g 0 1) (G g 0 5) (G g 0 6) n jr)) := (hr.2.1 _ (by show 0 ≤ G g 0 1 - _; omega) (by show _ < G g 0 2; omega)).1
    rw [hs, hp, show G g 0 1 - (G g 0 1 - sOf (G g 0 1) (G g 0 5) (G g 0 6) n jr) = sOf (G g 0 1) (G g 0 5) (G g 0 6) n jr by omega]
theorem k_begin (h : RT B (mkN jb jr lf jf rd vr G) z) (hj : jr = 0) : RT (B + 1) (mkN (jb + 1) 1 lf jf rd vr (sSt (sNJ G))) (mBegin z) ∧ mBegin z 0 = jb + 1 := by
  have hs := s_begin h.1 hj
  exact ⟨⟨hs, dG_sSt (dG_sNJ h.2)⟩, hs.1.1⟩
theorem k_again (h : RT B (mkN jb jr lf jf rd vr G) z) : RT (B + 1) (mkN (jb + 1) 1 lf jf rd vr (sSt G)) (mStart z) ∧ mStart z 0 = jb + 1 := by
  have hs := s_st0 h.1
  exact ⟨⟨hs, dG_sSt h.2⟩, hs.1.1⟩
theorem k_end (h : RT B (mkN jb jr lf jf rd vr G) z) (hj : jr = 1) (hw : 0 ≤ w ∧ w ≤ 1) : RT B (mkN jb 0 (if w = 0 then 1 else 0) (if w = 0 then jf + 1 else jf) rd vr (sFl (if w = 0 then 1 else 0) G)) (mEnd z w) ∧ mMany7 (mFail z w) = sMd jr (sFl (if w = 0 then 1 else 0) G) := ⟨⟨s_end h.1 hj hw, dG_sFl h.2⟩, (q_made (s_fail h.1 hj w)).symm⟩
theorem can_106 : canP z 106 g n ↔ ¬ z 1 = 1 := by constructor <;> (intro q; omega)
theorem can_103 : canP z 103 g n ↔ z 1 = 1 := by constructor <;> (intro q; omega)
theorem can_102 : canP z 102 g n ↔ z 1 = 1 := by constructor <;> (intro q; omega)
theorem can_97 : canP z 97 g n ↔ (¬ z 1 = 1 ∧ z 2 = 1) := by constructor <;> (intro q; omega)
theorem can_119 : canP z 119 g n ↔ ((n = 1 ∧ (¬ z 1 = 1 ∨ zg z g 5 = 0)) ∨ ¬ mTold z g n = -6) := by constructor <;> (intro q; omega)
theorem can_100 : canP z 100 g n ↔ ¬ mTold z g n = -6 := by constructor <;> (intro q; omega)
theorem can_114 : canP z 114 g n := by omega
/-- what is shown of one order -/
def oSim (B c g1 n1 d1 jb jr lf jf rd vr : Int) (G : Int → zGr) (z : Int → Int) (g n d : Int) : Prop := (canP z c g n → ¬ (oR c g1 n1 d1 jb jr lf jf rd vr G < 0 ∧ ¬ oR c g1 n1 d1 jb jr lf jf rd vr G = -6) ∧ RT (B + 1) (oS c g1 n1 d1 jb jr lf jf rd vr G) (mAct z c g n d)) ∧ (¬ canP z c g n → (oR c g1 n1 d1 jb jr lf jf rd vr G < 0 ∧ ¬ oR c g1 n1 d1 jb jr lf jf rd vr G = -6) ∧ RT (B + 1) (oS c g1 n1 d1 jb jr lf jf rd vr G) z)
section
variable {g1 n1 d1 : Int}
theorem ord_106 (h : RT B (mkN jb jr lf jf rd vr G) z) : oSim B 106 g1 n1 d1 jb jr lf jf rd vr G z g n d := by
  obtain ⟨z1, j01, -, -, -, jbb⟩ := h.z1
  have h1 : RT (B + 1) (mkN jb jr lf jf rd vr G) z := h.le (by omega)
  unfold oSim
  rw [oR_0 rfl, oS_0 rfl, can_106]
  by_cases j : jr = 0
  · have hk := (k_begin h j).1
    rw [if_pos j, if_pos j, if_pos j, if_pos j]
    exact ⟨fun _ => ⟨by omega, hk⟩, fun q => absurd q (by omega)⟩
  · rw [if_neg j, if_neg j, if_neg j, if_neg j]
    exact ⟨fun q => absurd q (by omega), fun _ => ⟨by omega, h1⟩⟩
theorem ord_103 (h : RT B (mkN jb jr lf jf rd vr G) z) : oSim B 103 g1 n1 d1 jb jr lf jf rd vr G z g n d := by
  obtain ⟨z1, j01, -, -, -, jbb⟩ := h.z1
  have h1 : RT (B + 1) (mkN jb jr lf jf rd vr G) z := h.le (by omega)
  unfold oSim
  rw [oR_1 rfl, oS_1 rfl, can_103]
  rw [if_neg (show ¬ ¬ (0 ≤ (1 : Int) ∧ (1 : Int) ≤ 1) by omega)]
  by_cases j : jr = 0
  · rw [if_pos j, if_neg (show ¬ (0 ≤ (1 : Int) ∧ (1 : Int) ≤ 1 ∧ ¬ jr = 0) by omega), if_neg (show ¬ (0 ≤ (1 : Int) ∧ (1 : Int) ≤ 1 ∧ ¬ jr = 0) by omega), if_neg (show ¬ (0 ≤ (1 : Int) ∧ (1 : Int) ≤ 1 ∧ ¬ jr = 0 ∧ (1 : Int) = 0) by omega), if_neg (show ¬ (0 ≤ (1 : Int) ∧ (1 : Int) ≤ 1 ∧ ¬ jr = 0) by omega)]
    exact ⟨fun q => absurd q (by omega), fun _ => ⟨by omega, h1⟩⟩
  · have hk := (k_end h (by omega) (w := 1) (by omega)).1.le (show B ≤ B + 1 by omega)
    simp only [if_neg (show ¬ (1 : Int) = 0 by omega)] at hk
    simp only [if_neg j, if_pos (show 0 ≤ (1 : Int) ∧ (1 : Int) ≤ 1 ∧ ¬ jr = 0 by omega), if_neg (show ¬ (0 ≤ (1 : Int) ∧ (1 : Int) ≤ 1 ∧ ¬ jr = 0 ∧ (1 : Int) = 0) by omega), if_neg (show ¬ (1 : Int) = 0 by omega)]
    have hm := (sMd_rg jr (sFl 0 G)).1
    exact ⟨fun _ => ⟨by omega, hk⟩, fun q => absurd (z1.trans (show jr = 1 by omega)) q⟩
theorem ord_102 (h : RT B (mkN jb jr lf jf rd vr G) z) : oSim B 102 g1 n1 d1 jb jr lf jf rd vr G z g n d := by
  obtain ⟨z1, j01, -, -, -, jbb⟩ := h.z1
  have h1 : RT (B + 1) (mkN jb jr lf jf rd vr G) z := h.le (by omega)
  unfold oSim
  rw [oR_2 rfl, oS_2 rfl, can_102]
  rw [if_neg (show ¬ ¬ (0 ≤ (0 : Int) ∧ (0 : Int) ≤ 1) by omega)]
  by_cases j : jr = 0
  · rw [if_pos j, if_neg (show ¬ (0 ≤ (0 : Int) ∧ (0 : Int) ≤ 1 ∧ ¬ jr = 0) by omega), if_neg (show ¬ (0 ≤ (0 : Int) ∧ (0 : Int) ≤ 1 ∧ ¬ jr = 0) by omega), if_neg (show ¬ (0 ≤ (0 : Int) ∧ (0 : Int) ≤ 1 ∧ ¬ jr = 0 ∧ (0 : Int) = 0) by omega), if_neg (show ¬ (0 ≤ (0 : Int) ∧ (0 : Int) ≤ 1 ∧ ¬ jr = 0) by omega)]
    exact ⟨fun q => absurd q (by omega), fun _ => ⟨by omega, h1⟩⟩
  · have hk := (k_end h (by omega) (w := 0) (by omega)).1.le (show B ≤ B + 1 by omega)
    rw [if_pos (show (0 : Int) = 0 from rfl), if_pos (show (0 : Int) = 0 from rfl)] at hk
    rw [if_neg j, if_pos (show 0 ≤ (0 : Int) ∧ (0 : Int) ≤ 1 ∧ ¬ jr = 0 by omega), if_pos (show 0 ≤ (0 : Int) ∧ (0 : Int) ≤ 1 ∧ ¬ jr = 0 by omega), if_pos (show 0 ≤ (0 : Int) ∧ (0 : Int) ≤ 1 ∧ ¬ jr = 0 ∧ (0 : Int) = 0 by omega), if_pos (show 0 ≤ (0 : Int) ∧ (0 : Int) ≤ 1 ∧ ¬ jr = 0 by omega), if_pos (show (0 : Int) = 0 from rfl)]
    have hm := (sMd_rg jr (sFl 1 G)).1
    exact ⟨fun _ => ⟨by omega, hk⟩, fun q => absurd (z1.trans (show jr = 1 by omega)) q⟩
theorem ord_97 (h : RT B (mkN jb jr lf jf rd vr G) z) : oSim B 97 g1 n1 d1 jb jr lf jf rd vr G z g n d := by
  obtain ⟨z1, j01, z2, l01, -, jbb⟩ := h.z1
  have h1 : RT (B + 1) (mkN jb jr lf jf rd vr G) z := h.le (by omega)
  unfold oSim
  rw [oR_3 rfl, oS_3 rfl, can_97]
  by_cases j : jr = 0 ∧ ¬ lf = 0
  · have hk := (k_again h).1
    rw [if_pos j, if_pos j, if_pos j, if_pos j]
    exact ⟨fun _ => ⟨by omega, hk⟩, fun q => absurd q (by omega)⟩
  · rw [if_neg j, if_neg j, if_neg j, if_neg j]
    exact ⟨fun q => absurd q (by omega), fun _ => ⟨by omega, h1⟩⟩
theorem ord_119 (h : RT B (mkN jb jr lf jf rd vr G) z) (hB : B ≤ 1000000000) (hg : 0 ≤ g ∧ g ≤ 5) (hn : -7 ≤ n ∧ n ≤ 1) (hd : 0 ≤ d ∧ d ≤ 9999) : oSim B 119 g n d jb jr lf jf rd vr G z g n d := by
  have h1 : RT (B + 1) (mkN jb jr lf jf rd vr G) z := h.le (by omega)
  unfold oSim
  rw [oR_4 rfl, oS_4 rfl, can_119]
  rw [if_neg (show ¬ ¬ (0 ≤ g ∧ g ≤ 5) from fun q => q hg), if_neg (show ¬ ¬ (-7 ≤ n ∧ n ≤ 1 ∧ 0 ≤ d ∧ d ≤ 9999) from fun q => q ⟨hn.1, hn.2, hd⟩), if_pos (show 0 ≤ g ∧ g ≤ 5 ∧ -7 ≤ n ∧ n ≤ 1 ∧ 0 ≤ d ∧ d ≤ 9999 from ⟨hg.1, hg.2, hn.1, hn.2, hd⟩)]
  by_cases hw : (n = 1 ∧ (¬ z 1 = 1 ∨ zg z g 5 = 0)) ∨ ¬ mTold z g n = -6
  · obtain ⟨k1, k2, k3⟩ := k_write h hg hn hd (by omega) hw
    rw [← k2]
    exact ⟨fun _ => ⟨fun q => absurd q.1 (Int.not_lt.mpr k3), k1⟩, fun q => absurd hw q⟩
  · obtain ⟨k1, k2⟩ := k_write_no h hg hn hw
    rw [if_neg k1, if_neg k2, if_neg k1, if_neg k2]
    exact ⟨fun q => absurd q hw, fun _ => ⟨by decide, h1⟩⟩
theorem ord_114 (h : RT B (mkN jb jr lf jf rd vr G) z) (hg : 0 ≤ g ∧ g ≤ 5) (hn : -7 ≤ n ∧ n ≤ 1) : oSim B 114 g n d1 jb jr lf jf rd vr G z g n d := by
  unfold oSim
  rw [oR_5 rfl, oS_5 rfl]
  obtain ⟨k1, k2, k3⟩ := k_read (n := n) h hg hn
  rw [k2] at k3
  rw [if_neg (show ¬ ¬ (0 ≤ g ∧ g ≤ 5) from fun q => q hg), if_neg (show ¬ ¬ (-7 ≤ n ∧ n ≤ 1) from fun q => q hn), if_pos (show 0 ≤ g ∧ g ≤ 5 ∧ -7 ≤ n ∧ n ≤ 1 from ⟨hg.1, hg.2, hn⟩)]
  refine ⟨fun _ => ⟨k3, ?_⟩, fun q => absurd can_114 q⟩
  by_cases t : thP (G g 0 1) (G g 0 2) (G g 1) (sOf (G g 0 1) (G g 0 5) (G g 0 6) n jr)
  · rw [if_neg (fun q => q t), if_pos t] at k1
    rw [if_neg (fun q => q.2.2.2.2 t), if_pos ⟨hg.1, hg.2, hn.1, hn.2, t⟩]
    exact k1.le (by omega)
  · rw [if_pos t, if_neg t] at k1
    rw [if_pos ⟨hg.1, hg.2, hn.1, hn.2, t⟩, if_neg (fun q => t q.2.2.2.2)]
    exact k1.le (by omega)
theorem ord_100 (h : RT B (mkN jb jr lf jf rd vr G) z) (hg : 0 ≤ g ∧ g ≤ 5) (hn : -7 ≤ n ∧ n ≤ 1) : oSim B 100 g n d1 jb jr lf jf rd vr G z g n d := by
  have h0 : RS B jb jr lf jf rd vr G z := h.1
  have h1 : RT (B + 1) (mkN jb jr lf jf rd vr G) z := h.le (by omega)
  have hi2 := (w_iff (n := n) h0 hg hn).2
  unfold oSim
  rw [oR_6 rfl, oS_6 rfl, can_100]
  rw [if_neg (show ¬ ¬ (0 ≤ g ∧ g ≤ 5) from fun q => q hg), if_neg (show ¬ ¬ (-7 ≤ n ∧ n ≤ 1) from fun q => q hn)]
  by_cases ht : ¬ mTold z g n = -6
  · obtain ⟨k0, k1, k2⟩ := k_del h hg hn ht
    rw [if_pos k0, if_pos ⟨hg.1, hg.2, hn.1, hn.2, k0⟩]
    have k3 := (nO_rg (sOf (G g 0 1) (G g 0 5) (G g 0 6) n jr)).1
    exact ⟨fun _ => ⟨fun q => absurd q.1 (Int.not_lt.mpr k3), k1.le (by omega)⟩, fun q => absurd ht q⟩
  · have k0 := fun q => ht (hi2.2 q)
    rw [if_neg k0, if_neg (fun q => k0 q.2.2.2.2)]
    exact ⟨fun q => absurd q ht, fun _ => ⟨by decide, h1⟩⟩
/-- one order of a text, on both sides -/
theorem order_sim (h : RT B (mkN jb jr lf jf rd vr G) z) (hB : B ≤ 1000000000) (ho : ordOk c g n d) (e1 : c = 119 ∨ c = 114 ∨ c = 100 → g1 = g ∧ n1 = n) (e2 : c = 119 → d1 = d) : oSim B c g1 n1 d1 jb jr lf jf rd vr G z g n d := by
  unfold ordOk at ho
  rcases ho with rfl | rfl | rfl | rfl | ⟨rfl | rfl | rfl, a1, a2, a3, a4, a5⟩
  · exact ord_106 h
  · exact ord_103 h
  · exact ord_102 h
  · exact ord_97 h
  · obtain ⟨rfl, rfl⟩ := e1 (Or.inl rfl)
    obtain rfl := e2 rfl
    exact ord_119 h hB ⟨a1, a2⟩ ⟨a3, a4⟩ (a5 rfl)
  · obtain ⟨rfl, rfl⟩ := e1 (Or.inr (Or.inl rfl))
    exact ord_114 h ⟨a1, a2⟩ ⟨a3, a4⟩
  · obtain ⟨rfl, rfl⟩ := e1 (Or.inr (Or.inr rfl))
    exact ord_100 h ⟨a1, a2⟩ ⟨a3, a4⟩
end
end
