/-- one order of a text: the state behind it, and its answer -/
def oS (ch gr n d jb jr lf jf rd vr : Int) (G : Int → zGr) : zSt := if ch = 106 then mkN (if jr = 0 then jb + 1 else jb) (if jr = 0 then 1 else jr) lf jf rd vr (if jr = 0 then sSt (sNJ G) else G) else if ch = 103 then mkN jb (if 0 ≤ (1 : Int) ∧ (1 : Int) ≤ 1 ∧ ¬ jr = 0 then 0 else jr) (if 0 ≤ (1 : Int) ∧ (1 : Int) ≤ 1 ∧ ¬ jr = 0 then (if (1 : Int) = 0 then 1 else 0) else lf) (if 0 ≤ (1 : Int) ∧ (1 : Int) ≤ 1 ∧ ¬ jr = 0 ∧ (1 : Int) = 0 then jf + 1 else jf) rd vr (if 0 ≤ (1 : Int) ∧ (1 : Int) ≤ 1 ∧ ¬ jr = 0 then sFl (if (1 : Int) = 0 then 1 else 0) G else G) else if ch = 102 then mkN jb (if 0 ≤ (0 : Int) ∧ (0 : Int) ≤ 1 ∧ ¬ jr = 0 then 0 else jr) (if 0 ≤ (0 : Int) ∧ (0 : Int) ≤ 1 ∧ ¬ jr = 0 then (if (0 : Int) = 0 then 1 else 0) else lf) (if 0 ≤ (0 : Int) ∧ (0 : Int) ≤ 1 ∧ ¬ jr = 0 ∧ (0 : Int) = 0 then jf + 1 else jf) rd vr (if 0 ≤ (0 : Int) ∧ (0 : Int) ≤ 1 ∧ ¬ jr = 0 then sFl (if (0 : Int) = 0 then 1 else 0) G else G) else if ch = 97 then mkN (if jr = 0 ∧ ¬ lf = 0 then jb + 1 else jb) (if jr = 0 ∧ ¬ lf = 0 then 1 else jr) lf jf rd vr (if jr = 0 ∧ ¬ lf = 0 then sSt G else G) else if ch = 119 then mkN jb jr lf jf rd vr (if 0 ≤ gr ∧ gr ≤ 5 ∧ -7 ≤ n ∧ n ≤ 1 ∧ 0 ≤ d ∧ d ≤ 9999 then (if (n = 1 ∧ ¬ (¬ jr = 0 ∧ ¬ G gr 0 6 = 0)) then gU G gr (xMk (G gr) d (if jr = 0 then 0 else jb)) else if thP (G gr 0 1) (G gr 0 2) (G gr 1) (sOf (G gr 0 1) (G gr 0 5) (G gr 0 6) n jr) then gU G gr (xDa (G gr) (sOf (G gr 0 1) (G gr 0 5) (G gr 0 6) n jr) d) else G) else G) else if ch = 114 then mkN jb jr lf jf (if 0 ≤ gr ∧ gr ≤ 5 ∧ -7 ≤ n ∧ n ≤ 1 then rd + 1 else rd) (if 0 ≤ gr ∧ gr ≤ 5 ∧ -7 ≤ n ∧ n ≤ 1 ∧ ¬ thP (G gr 0 1) (G gr 0 2) (G gr 1) (sOf (G gr 0 1) (G gr 0 5) (G gr 0 6) n jr) then vr + 1 else vr) (if 0 ≤ gr ∧ gr ≤ 5 ∧ -7 ≤ n ∧ n ≤ 1 ∧ thP (G gr 0 1) (G gr 0 2) (G gr 1) (sOf (G gr 0 1) (G gr 0 5) (G gr 0 6) n jr) then gU G gr (xRe (G gr) (sOf (G gr 0 1) (G gr 0 5) (G gr 0 6) n jr)) else G) else if ch = 100 then mkN jb jr lf jf rd vr (if 0 ≤ gr ∧ gr ≤ 5 ∧ -7 ≤ n ∧ n ≤ 1 ∧ thP (G gr 0 1) (G gr 0 2) (G gr 1) (sOf (G gr 0 1) (G gr 0 5) (G gr 0 6) n jr) then gU G gr (xHo (G gr) (sOf (G gr 0 1) (G gr 0 5) (G gr 0 6) n jr)) else G) else mkN jb jr lf jf rd vr G
def oR (ch gr n d jb jr lf jf rd vr : Int) (G : Int → zGr) : Int := if ch = 106 then (if jr = 0 then jb + 1 else -5) else if ch = 103 then (if ¬ (0 ≤ (1 : Int) ∧ (1 : Int) ≤ 1) then -2 else if jr = 0 then -5 else sMd jr (sFl (if (1 : Int) = 0 then 1 else 0) G)) else if ch = 102 then (if ¬ (0 ≤ (0 : Int) ∧ (0 : Int) ≤ 1) then -2 else if jr = 0 then -5 else sMd jr (sFl (if (0 : Int) = 0 then 1 else 0) G)) else if ch = 97 then (if jr = 0 ∧ ¬ lf = 0 then jb + 1 else -5) else if ch = 119 then (if ¬ (0 ≤ gr ∧ gr ≤ 5) then -1 else if ¬ (-7 ≤ n ∧ n ≤ 1 ∧ 0 ≤ d ∧ d ≤ 9999) then -2 else if (n = 1 ∧ ¬ (¬ jr = 0 ∧ ¬ G gr 0 6 = 0)) then nO (G gr 0 1 + 1) else if thP (G gr 0 1) (G gr 0 2) (G gr 1) (sOf (G gr 0 1) (G gr 0 5) (G gr 0 6) n jr) then nO (sOf (G gr 0 1) (G gr 0 5) (G gr 0 6) n jr) else -5) else if ch = 114 then (if ¬ (0 ≤ gr ∧ gr ≤ 5) then -1 else if ¬ (-7 ≤ n ∧ n ≤ 1) then -2 else if thP (G gr 0 1) (G gr 0 2) (G gr 1) (sOf (G gr 0 1) (G gr 0 5) (G gr 0 6) n jr) then G gr 1 ((sOf (G gr 0 1) (G gr 0 5) (G gr 0 6) n jr) % 8) else -6) else if ch = 100 then (if ¬ (0 ≤ gr ∧ gr ≤ 5) then -1 else if ¬ (-7 ≤ n ∧ n ≤ 1) then -2 else if thP (G gr 0 1) (G gr 0 2) (G gr 1) (sOf (G gr 0 1) (G gr 0 5) (G gr 0 6) n jr) then nO (sOf (G gr 0 1) (G gr 0 5) (G gr 0 6) n jr) else -5) else -3
theorem oS_0 {ch gr n d jb jr lf jf rd vr : Int} {G : Int → zGr} (h : ch = 106) : oS ch gr n d jb jr lf jf rd vr G = mkN (if jr = 0 then jb + 1 else jb) (if jr = 0 then 1 else jr) lf jf rd vr (if jr = 0 then sSt (sNJ G) else G) := by
  unfold oS
  rw [if_pos h]
theorem oR_0 {ch gr n d jb jr lf jf rd vr : Int} {G : Int → zGr} (h : ch = 106) : oR ch gr n d jb jr lf jf rd vr G = (if jr = 0 then jb + 1 else -5) := by
  unfold oR
  rw [if_pos h]
theorem oS_1 {ch gr n d jb jr lf jf rd vr : Int} {G : Int → zGr} (h : ch = 103) : oS ch gr n d jb jr lf jf rd vr G = mkN jb (if 0 ≤ (1 : Int) ∧ (1 : Int) ≤ 1 ∧ ¬ jr = 0 then 0 else jr) (if 0 ≤ (1 : Int) ∧ (1 : Int) ≤ 1 ∧ ¬ jr = 0 then (if (1 : Int) = 0 then 1 else 0) else lf) (if 0 ≤ (1 : Int) ∧ (1 : Int) ≤ 1 ∧ ¬ jr = 0 ∧ (1 : Int) = 0 then jf + 1 else jf) rd vr (if 0 ≤ (1 : Int) ∧ (1 : Int) ≤ 1 ∧ ¬ jr = 0 then sFl (if (1 : Int) = 0 then 1 else 0) G else G) := by
  unfold oS
  rw [if_neg (show ¬ ch = 106 by omega), if_pos h]
theorem oR_1 {ch gr n d jb jr lf jf rd vr : Int} {G : Int → zGr} (h : ch = 103) : oR ch gr n d jb jr lf jf rd vr G = (if ¬ (0 ≤ (1 : Int) ∧ (1 : Int) ≤ 1) then -2 else if jr = 0 then -5 else sMd jr (sFl (if (1 : Int) = 0 then 1 else 0) G)) := by
  unfold oR
  rw [if_neg (show ¬ ch = 106 by omega), if_pos h]
theorem oS_2 {ch gr n d jb jr lf jf rd vr : Int} {G : Int → zGr} (h : ch = 102) : oS ch gr n d jb jr lf jf rd vr G = mkN jb (if 0 ≤ (0 : Int) ∧ (0 : Int) ≤ 1 ∧ ¬ jr = 0 then 0 else jr) (if 0 ≤ (0 : Int) ∧ (0 : Int) ≤ 1 ∧ ¬ jr = 0 then (if (0 : Int) = 0 then 1 else 0) else lf) (if 0 ≤ (0 : Int) ∧ (0 : Int) ≤ 1 ∧ ¬ jr = 0 ∧ (0 : Int) = 0 then jf + 1 else jf) rd vr (if 0 ≤ (0 : Int) ∧ (0 : Int) ≤ 1 ∧ ¬ jr = 0 then sFl (if (0 : Int) = 0 then 1 else 0) G else G) := by
  unfold oS
  rw [if_neg (show ¬ ch = 106 by omega), if_neg (show ¬ ch = 103 by omega), if_pos h]
theorem oR_2 {ch gr n d jb jr lf jf rd vr : Int} {G : Int → zGr} (h : ch = 102) : oR ch gr n d jb jr lf jf rd vr G = (if ¬ (0 ≤ (0 : Int) ∧ (0 : Int) ≤ 1) then -2 else if jr = 0 then -5 else sMd jr (sFl (if (0 : Int) = 0 then 1 else 0) G)) := by
  unfold oR
  rw [if_neg (show ¬ ch = 106 by omega), if_neg (show ¬ ch = 103 by omega), if_pos h]
theorem oS_3 {ch gr n d jb jr lf jf rd vr : Int} {G : Int → zGr} (h : ch = 97) : oS ch gr n d jb jr lf jf rd vr G = mkN (if jr = 0 ∧ ¬ lf = 0 then jb + 1 else jb) (if jr = 0 ∧ ¬ lf = 0 then 1 else jr) lf jf rd vr (if jr = 0 ∧ ¬ lf = 0 then sSt G else G) := by
  unfold oS
  rw [if_neg (show ¬ ch = 106 by omega), if_neg (show ¬ ch = 103 by omega), if_neg (show ¬ ch = 102 by omega), if_pos h]
theorem oR_3 {ch gr n d jb jr lf jf rd vr : Int} {G : Int → zGr} (h : ch = 97) : oR ch gr n d jb jr lf jf rd vr G = (if jr = 0 ∧ ¬ lf = 0 then jb + 1 else -5) := by
  unfold oR
  rw [if_neg (show ¬ ch = 106 by omega), if_neg (show ¬ ch = 103 by omega), if_neg (show ¬ ch = 102 by omega), if_pos h]
theorem oS_4 {ch gr n d jb jr lf jf rd vr : Int} {G : Int → zGr} (h : ch = 119) : oS ch gr n d jb jr lf jf rd vr G = mkN jb jr lf jf rd vr (if 0 ≤ gr ∧ gr ≤ 5 ∧ -7 ≤ n ∧ n ≤ 1 ∧ 0 ≤ d ∧ d ≤ 9999 then (if (n = 1 ∧ ¬ (¬ jr = 0 ∧ ¬ G gr 0 6 = 0)) then gU G gr (xMk (G gr) d (if jr = 0 then 0 else jb)) else if thP (G gr 0 1) (G gr 0 2) (G gr 1) (sOf (G gr 0 1) (G gr 0 5) (G gr 0 6) n jr) then gU G gr (xDa (G gr) (sOf (G gr 0 1) (G gr 0 5) (G gr 0 6) n jr) d) else G) else G) := by
  unfold oS
  rw [if_neg (show ¬ ch = 106 by omega), if_neg (show ¬ ch = 103 by omega), if_neg (show ¬ ch = 102 by omega), if_neg (show ¬ ch = 97 by omega), if_pos h]
theorem oR_4 {ch gr n d jb jr lf jf rd vr : Int} {G : Int → zGr} (h : ch = 119) : oR ch gr n d jb jr lf jf rd vr G = (if ¬ (0 ≤ gr ∧ gr ≤ 5) then -1 else if ¬ (-7 ≤ n ∧ n ≤ 1 ∧ 0 ≤ d ∧ d ≤ 9999) then -2 else if (n = 1 ∧ ¬ (¬ jr = 0 ∧ ¬ G gr 0 6 = 0)) then nO (G gr 0 1 + 1) else if thP (G gr 0 1) (G gr 0 2) (G gr 1) (sOf (G gr 0 1) (G gr 0 5) (G gr 0 6) n jr) then nO (sOf (G gr 0 1) (G gr 0 5) (G gr 0 6) n jr) else -5) := by
  unfold oR
  rw [if_neg (show ¬ ch = 106 by omega), if_neg (show ¬ ch = 103 by omega), if_neg (show ¬ ch = 102 by omega), if_neg (show ¬ ch = 97 by omega), if_pos h]
theorem oS_5 {ch gr n d jb jr lf jf rd vr : Int} {G : Int → zGr} (h : ch = 114) : oS ch gr n d jb jr lf jf rd vr G = mkN jb jr lf jf (if 0 ≤ gr ∧ gr ≤ 5 ∧ -7 ≤ n ∧ n ≤ 1 then rd + 1 else rd) (if 0 ≤ gr ∧ gr ≤ 5 ∧ -7 ≤ n ∧ n ≤ 1 ∧ ¬ thP (G gr 0 1) (G gr 0 2) (G gr 1) (sOf (G gr 0 1) (G gr 0 5) (G gr 0 6) n jr) then vr + 1 else vr) (if 0 ≤ gr ∧ gr ≤ 5 ∧ -7 ≤ n ∧ n ≤ 1 ∧ thP (G gr 0 1) (G gr 0 2) (G gr 1) (sOf (G gr 0 1) (G gr 0 5) (G gr 0 6) n jr) then gU G gr (xRe (G gr) (sOf (G gr 0 1) (G gr 0 5) (G gr 0 6) n jr)) else G) := by
  unfold oS
  rw [if_neg (show ¬ ch = 106 by omega), if_neg (show ¬ ch = 103 by omega), if_neg (show ¬ ch = 102 by omega), if_neg (show ¬ ch = 97 by omega), if_neg (show ¬ ch = 119 by omega), if_pos h]
theorem oR_5 {ch gr n d jb jr lf jf rd vr : Int} {G : Int → zGr} (h : ch = 114) : oR ch gr n d jb jr lf jf rd vr G = (if ¬ (0 ≤ gr ∧ gr ≤ 5) then -1 else if ¬ (-7 ≤ n ∧ n ≤ 1) then -2 else if thP (G gr 0 1) (G gr 0 2) (G gr 1) (sOf (G gr 0 1) (G gr 0 5) (G gr 0 6) n jr) then G gr 1 ((sOf (G gr 0 1) (G gr 0 5) (G gr 0 6) n jr) % 8) else -6) := by
  unfold oR
  rw [if_neg (show ¬ ch = 106 by omega), if_neg (show ¬ ch = 103 by omega), if_neg (show ¬ ch = 102 by omega), if_neg (show ¬ ch = 97 by omega), if_neg (show ¬ ch = 119 by omega), if_pos h]
theorem oS_6 {ch gr n d jb jr lf jf rd vr : Int} {G : Int → zGr} (h : ch = 100) : oS ch gr n d jb jr lf jf rd vr G = mkN jb jr lf jf rd vr (if 0 ≤ gr ∧ gr ≤ 5 ∧ -7 ≤ n ∧ n ≤ 1 ∧ thP (G gr 0 1) (G gr 0 2) (G gr 1) (sOf (G gr 0 1) (G gr 0 5) (G gr 0 6) n jr) then gU G gr (xHo (G gr) (sOf (G gr 0 1) (G gr 0 5) (G gr 0 6) n jr)) else G) := by
  unfold oS
  rw [if_neg (show ¬ ch = 106 by omega), if_neg (show ¬ ch = 103 by omega), if_neg (show ¬ ch = 102 by omega), if_neg (show ¬ ch = 97 by omega), if_neg (show ¬ ch = 119 by omega), if_neg (show ¬ ch = 114 by omega), if_pos h]
theorem oR_6 {ch gr n d jb jr lf jf rd vr : Int} {G : Int → zGr} (h : ch = 100) : oR ch gr n d jb jr lf jf rd vr G = (if ¬ (0 ≤ gr ∧ gr ≤ 5) then -1 else if ¬ (-7 ≤ n ∧ n ≤ 1) then -2 else if thP (G gr 0 1) (G gr 0 2) (G gr 1) (sOf (G gr 0 1) (G gr 0 5) (G gr 0 6) n jr) then nO (sOf (G gr 0 1) (G gr 0 5) (G gr 0 6) n jr) else -5) := by
  unfold oR
  rw [if_neg (show ¬ ch = 106 by omega), if_neg (show ¬ ch = 103 by omega), if_neg (show ¬ ch = 102 by omega), if_neg (show ¬ ch = 97 by omega), if_neg (show ¬ ch = 119 by omega), if_neg (show ¬ ch = 114 by omega), if_pos h]
theorem oS_7 {ch gr n d jb jr lf jf rd vr : Int} {G : Int → zGr} (h : ¬ ch = 106 ∧ ¬ ch = 103 ∧ ¬ ch = 102 ∧ ¬ ch = 97 ∧ ¬ ch = 119 ∧ ¬ ch = 114 ∧ ¬ ch = 100) : oS ch gr n d jb jr lf jf rd vr G = mkN jb jr lf jf rd vr G := by
  unfold oS
  rw [if_neg (show ¬ ch = 106 by omega), if_neg (show ¬ ch = 103 by omega), if_neg (show ¬ ch = 102 by omega), if_neg (show ¬ ch = 97 by omega), if_neg (show ¬ ch = 119 by omega), if_neg (show ¬ ch = 114 by omega), if_neg (show ¬ ch = 100 by omega)]
theorem oR_7 {ch gr n d jb jr lf jf rd vr : Int} {G : Int → zGr} (h : ¬ ch = 106 ∧ ¬ ch = 103 ∧ ¬ ch = 102 ∧ ¬ ch = 97 ∧ ¬ ch = 119 ∧ ¬ ch = 114 ∧ ¬ ch = 100) : oR ch gr n d jb jr lf jf rd vr G = -3 := by
  unfold oR
  rw [if_neg (show ¬ ch = 106 by omega), if_neg (show ¬ ch = 103 by omega), if_neg (show ¬ ch = 102 by omega), if_neg (show ¬ ch = 97 by omega), if_neg (show ¬ ch = 119 by omega), if_neg (show ¬ ch = 114 by omega), if_neg (show ¬ ch = 100 by omega)]
theorem oS_eta {ch gr n d jb jr lf jf rd vr : Int} {G : Int → zGr} : mkN ((oS ch gr n d jb jr lf jf rd vr G).1 0) ((oS ch gr n d jb jr lf jf rd vr G).1 1) ((oS ch gr n d jb jr lf jf rd vr G).1 2) ((oS ch gr n d jb jr lf jf rd vr G).1 3) ((oS ch gr n d jb jr lf jf rd vr G).1 4) ((oS ch gr n d jb jr lf jf rd vr G).1 5) (oS ch gr n d jb jr lf jf rd vr G).2 = oS ch gr n d jb jr lf jf rd vr G := by
  by_cases a0 : ch = 106
  · rw [oS_0 a0]; rfl
  by_cases a1 : ch = 103
  · rw [oS_1 a1]; rfl
  by_cases a2 : ch = 102
  · rw [oS_2 a2]; rfl
  by_cases a3 : ch = 97
  · rw [oS_3 a3]; rfl
  by_cases a4 : ch = 119
  · rw [oS_4 a4]; rfl
  by_cases a5 : ch = 114
  · rw [oS_5 a5]; rfl
  by_cases a6 : ch = 100
  · rw [oS_6 a6]; rfl
  rw [oS_7 ⟨a0, a1, a2, a3, a4, a5, a6⟩]
  rfl
theorem if_b {P : Prop} [Decidable P] {a b lo hi : Int} (h1 : lo ≤ a ∧ a ≤ hi) (h2 : lo ≤ b ∧ b ≤ hi) : lo ≤ (if P then a else b) ∧ (if P then a else b) ≤ hi := by
  by_cases h : P
  · rw [if_pos h]; exact h1
  · rw [if_neg h]; exact h2
theorem nOO_rg {sg : Int → Int} {le ps : Int} (h : PD sg le) : -79 ≤ nOO sg le ps ∧ nOO sg le ps ≤ 48 := by
  have h1 := Sg_rg (ps := ps + 3) h
  unfold nOO
  split
  · omega
  · split <;> omega
/-- what every group keeps, with a bound of its serials -/
def XIb (B : Int) (X : zGr) : Prop := (0 ≤ X 0 1 ∧ X 0 1 ≤ B) ∧ (0 ≤ X 0 2 ∧ X 0 2 ≤ 8 ∧ X 0 2 ≤ X 0 1) ∧ DGr (X 1) ∧ (1 ≤ X 0 0 ∧ X 0 0 ≤ 8) ∧ (0 ≤ X 0 5 ∧ X 0 5 ≤ B) ∧ (0 ≤ X 0 6 ∧ X 0 6 ≤ B)
def SIb (B : Int) (G : Int → zGr) : Prop := ∀ g : Int, 0 ≤ g → g ≤ 5 → XIb B (G g)
theorem SIb.si {B : Int} {G : Int → zGr} (h : SIb B G) (hB : B ≤ 1900000000) : SI G := by
  intro g a b
  obtain ⟨h1, h2, h3, h4, h5, h6⟩ := h g a b
  exact ⟨by omega, h2, h3, h4, by omega, by omega⟩
theorem SIb.le {B C : Int} {G : Int → zGr} (h : SIb B G) (hB : B ≤ C) : SIb C G := by
  intro g a b
  obtain ⟨h1, h2, h3, h4, h5, h6⟩ := h g a b
  exact ⟨by omega, h2, h3, h4, by omega, by omega⟩
theorem SIb_gU {B : Int} {G : Int → zGr} {g : Int} {X : zGr} (h : SIb B G) (hX : XIb B X) : SIb B (gU G g X) := by
  intro i a b
  by_cases e : i = g
  · subst e; rw [gU_same]; exact hX
  · rw [gU_ne e]; exact h i a b
section
variable {B : Int} {X : zGr}
theorem XIb_xK {k : Int} (h : XIb B X) (hk : 1 ≤ k ∧ k ≤ 8) : XIb B (xK X k) := by
  obtain ⟨h1, h2, h3, h4, h5, h6⟩ := h
  have hc := cL_rg (da := X 1) (ne := X 0 1) (most := k) (si := X 0 2) (ro := X 0 3) h2.1
  refine ⟨h1, ?_, h3, hk, h5, h6⟩
  show 0 ≤ (cL (X 1) (X 0 1) k (X 0 2) (X 0 3)).1 ∧ (cL (X 1) (X 0 1) k (X 0 2) (X 0 3)).1 ≤ 8 ∧ (cL (X 1) (X 0 1) k (X 0 2) (X 0 3)).1 ≤ X 0 1
  omega
theorem cLv_most {da : Int → Int} {ne most : Int} (hm : 0 ≤ most) : ∀ (n : Nat) (si ro : Int), si ≤ n → (cLv da ne most n si ro).1 ≤ most ∨ (cLv da ne most n si ro).1 ≤ 0
  | 0, si, ro, h => Or.inr (by show si ≤ 0; omega)
  | n + 1, si, ro, h => by
    by_cases c : 0 < si ∧ (most < si ∨ da ((ne - si + 1) % 8) = -6)
    · show (if _ then _ else _ : Int × Int).1 ≤ most ∨ (if _ then _ else _ : Int × Int).1 ≤ 0
      rw [if_pos c]
      exact cLv_most hm n _ _ (by omega)
    · rw [cLv_stop c]
      show si ≤ most ∨ si ≤ 0
      omega
theorem XIb_xMk {d j : Int} (h : XIb B X) (hd : rg d) : XIb (B + 1) (xMk X d j) := by
  obtain ⟨h1, h2, h3, h4, h5, h6⟩ := h
  have hc := cL_rg (da := X 1) (ne := X 0 1) (most := X 0 0 - 1) (si := X 0 2) (ro := X 0 3) h2.1
  have hm := cLv_most (da := X 1) (ne := X 0 1) (most := X 0 0 - 1) (by omega) (X 0 2).toNat (X 0 2) (X 0 3) (by omega)
  have hm2 : (cL (X 1) (X 0 1) (X 0 0 - 1) (X 0 2) (X 0 3)).1 ≤ X 0 0 - 1 ∨ (cL (X 1) (X 0 1) (X 0 0 - 1) (X 0 2) (X 0 3)).1 ≤ 0 := hm
  refine ⟨?_, ?_, DGr_iU h3 hd, h4, by show 0 ≤ X 0 5 ∧ X 0 5 ≤ B + 1; omega, ?_⟩
  · show 0 ≤ X 0 1 + 1 ∧ X 0 1 + 1 ≤ B + 1
    omega
  · show 0 ≤ (cL (X 1) (X 0 1) (X 0 0 - 1) (X 0 2) (X 0 3)).1 + 1 ∧ (cL (X 1) (X 0 1) (X 0 0 - 1) (X 0 2) (X 0 3)).1 + 1 ≤ 8 ∧ (cL (X 1) (X 0 1) (X 0 0 - 1) (X 0 2) (X 0 3)).1 + 1 ≤ X 0 1 + 1
    omega
  · show 0 ≤ X 0 1 + 1 ∧ X 0 1 + 1 ≤ B + 1
    omega
theorem XIb_xHo {sr : Int} (h : XIb B X) : XIb B (xHo X sr) := by
  obtain ⟨h1, h2, h3, h4, h5, h6⟩ := h
  have hc := cL_rg (da := iU (X 1) (sr % 8) (-6)) (ne := X 0 1) (most := X 0 0) (si := X 0 2) (ro := X 0 3) h2.1
  refine ⟨h1, ?_, DGr_iU h3 ⟨by omega, by omega⟩, h4, h5, h6⟩
  show 0 ≤ (cL (iU (X 1) (sr % 8) (-6)) (X 0 1) (X 0 0) (X 0 2) (X 0 3)).1 ∧ (cL (iU (X 1) (sr % 8) (-6)) (X 0 1) (X 0 0) (X 0 2) (X 0 3)).1 ≤ 8 ∧ (cL (iU (X 1) (sr % 8) (-6)) (X 0 1) (X 0 0) (X 0 2) (X 0 3)).1 ≤ X 0 1
  omega
theorem XIb_xDa {sr d : Int} (h : XIb B X) (hd : rg d) : XIb B (xDa X sr d) := ⟨h.1, h.2.1, DGr_iU h.2.2.1 hd, h.2.2.2.1, h.2.2.2.2.1, h.2.2.2.2.2⟩
theorem XIb_xRe {sr : Int} (h : XIb B X) : XIb B (xRe X sr) := h
theorem XIb_xNJ (h : XIb B X) : XIb B (xNJ X) := ⟨h.1, h.2.1, h.2.2.1, h.2.2.2.1, h.1, h.2.2.2.2.2⟩
theorem XIb_xM0 (h : XIb B X) : XIb B (xM0 X) := ⟨h.1, h.2.1, h.2.2.1, h.2.2.2.1, h.2.2.2.2.1, by have := h.1; show (0 : Int) ≤ 0 ∧ (0 : Int) ≤ B; omega⟩
end
section
variable {B : Int} {G : Int → zGr}
theorem SIb_sSt (h : SIb B G) : SIb B (sSt G) := itr_invB (P := fun Y => SIb B Y) 6 h (fun i x a b hx => SIb_gU hx (XIb_xM0 (hx i a (by omega)))) 6 (Nat.le_refl 6)
theorem SIb_sNJ (h : SIb B G) : SIb B (sNJ G) := itr_invB (P := fun Y => SIb B Y) 6 h (fun i x a b hx => SIb_gU hx (XIb_xNJ (hx i a (by omega)))) 6 (Nat.le_refl 6)
theorem SIb_if {P : Prop} [Decidable P] {G2 : Int → zGr} (h1 : P → SIb B G) (h2 : ¬ P → SIb B G2) : SIb B (if P then G else G2) := by
  by_cases h : P
  · rw [if_pos h]; exact h1 h
  · rw [if_neg h]; exact h2 h
theorem SIb_sFl {w : Int} (h : SIb B G) : SIb B (sFl w G) := itr_invB (P := fun Y => SIb B Y) 6 h (fun i x a b hx => SIb_if (fun _ => SIb_gU hx (XIb_xHo (hx i a (by omega)))) (fun _ => hx)) 6 (Nat.le_refl 6)
end
def okO (B : Int) (N : zSt) : Prop := SIb B N.2 ∧ (N.1 1 = 0 ∨ N.1 1 = 1) ∧ (N.1 2 = 0 ∨ N.1 2 = 1) ∧ (0 ≤ N.1 0 ∧ N.1 0 ≤ B)
theorem oS_ok {B ch gr n d jb jr lf jf rd vr : Int} {G : Int → zGr} (h : SIb B G) (hj : jr = 0 ∨ jr = 1) (hl : lf = 0 ∨ lf = 1) (hb : 0 ≤ jb ∧ jb ≤ B) (hB : B ≤ 1500000000) : okO (B + 1) (oS ch gr n d jb jr lf jf rd vr G) := by
  have h' := h.le (C := B + 1) (by omega)
  unfold oS
  by_cases a1 : ch = 106
  · rw [if_pos a1]
    refine ⟨SIb_if (fun _ => SIb_sSt (SIb_sNJ h')) (fun _ => h'), ?_, hl, ?_⟩
    · show (if jr = 0 then 1 else jr) = 0 ∨ (if jr = 0 then 1 else jr) = 1
      split <;> omega
    · show 0 ≤ (if jr = 0 then jb + 1 else jb) ∧ (if jr = 0 then jb + 1 else jb) ≤ B + 1
      split <;> omega
  rw [if_neg a1]
  by_cases a2 : ch = 103
  · rw [if_pos a2]
    refine ⟨SIb_if (fun _ => SIb_sFl h') (fun _ => h'), ?_, ?_, by show 0 ≤ jb ∧ jb ≤ B + 1; omega⟩
    · show (if _ then 0 else jr) = 0 ∨ (if _ then 0 else jr) = 1
      split <;> omega
    · show (if _ then (if (1 : Int) = 0 then 1 else 0) else lf) = 0 ∨ (if _ then (if (1 : Int) = 0 then 1 else 0) else lf) = 1
      split
      · exact Or.inl rfl
      · exact hl
  rw [if_neg a2]
  by_cases a3 : ch = 102
  · rw [if_pos a3]
    refine ⟨SIb_if (fun _ => SIb_sFl h') (fun _ => h'), ?_, ?_, by show 0 ≤ jb ∧ jb ≤ B + 1; omega⟩
    · show (if _ then 0 else jr) = 0 ∨ (if _ then 0 else jr) = 1
      split <;> omega
    · show (if _ then (if (0 : Int) = 0 then 1 else 0) else lf) = 0 ∨ (if _ then (if (0 : Int) = 0 then 1 else 0) else lf) = 1
      split
      · exact Or.inr rfl
      · exact hl
  rw [if_neg a3]
  by_cases a4 : ch = 97
  · rw [if_pos a4]
    refine ⟨SIb_if (fun _ => SIb_sSt h') (fun _ => h'), ?_, hl, ?_⟩
    · show (if _ then 1 else jr) = 0 ∨ (if _ then 1 else jr) = 1
      split <;> omega
    · exact if_b ⟨by omega, by omega⟩ ⟨by omega, by omega⟩
  rw [if_neg a4]
  by_cases a5 : ch = 119
  · rw [if_pos a5]
    refine ⟨SIb_if (fun q => SIb_if (fun _ => SIb_gU h' (XIb_xMk (h gr q.1 q.2.1) ⟨by omega, by omega⟩)) (fun _ => SIb_if (fun _ => SIb_gU h' (XIb_xDa (h' gr q.1 q.2.1) ⟨by omega, by omega⟩)) (fun _ => h'))) (fun _ => h'), hj, hl, by show 0 ≤ jb ∧ jb ≤ B + 1; omega⟩
  rw [if_neg a5]
  by_cases a6 : ch = 114
  · rw [if_pos a6]
    exact ⟨SIb_if (fun q => SIb_gU h' (XIb_xRe (h' gr q.1 q.2.1))) (fun _ => h'), hj, hl, by show 0 ≤ jb ∧ jb ≤ B + 1; omega⟩
  rw [if_neg a6]
  by_cases a7 : ch = 100
  · rw [if_pos a7]
    exact ⟨SIb_if (fun q => SIb_gU h' (XIb_xHo (h' gr q.1 q.2.1))) (fun _ => h'), hj, hl, by show 0 ≤ jb ∧ jb ≤ B + 1; omega⟩
  rw [if_neg a7]
  exact ⟨h', hj, hl, by show 0 ≤ jb ∧ jb ≤ B + 1; omega⟩
theorem oR_rg {ch gr n d jb jr lf jf rd vr : Int} {G : Int → zGr} (h : SI G) (hb : 0 ≤ jb ∧ jb ≤ 1900000000) : rg (oR ch gr n d jb jr lf jf rd vr G) := by
  have L : ∀ x : Int, -10 ≤ x → x ≤ 2000000000 → rg x := fun x a b => ⟨by omega, by omega⟩
  unfold oR
  refine rg_if (fun _ => rg_if (fun _ => L _ (by omega) (by omega)) (fun _ => L _ (by omega) (by omega))) (fun _ => ?_)
  refine rg_if (fun _ => rg_if (fun _ => L _ (by omega) (by omega)) (fun _ => rg_if (fun _ => L _ (by omega) (by omega)) (fun _ => (fun x (hx : 0 ≤ x ∧ x ≤ 6) => L x (by omega) (by omega)) _ (sMd_rg _ _)))) (fun _ => ?_)
  refine rg_if (fun _ => rg_if (fun _ => L _ (by omega) (by omega)) (fun _ => rg_if (fun _ => L _ (by omega) (by omega)) (fun _ => (fun x (hx : 0 ≤ x ∧ x ≤ 6) => L x (by omega) (by omega)) _ (sMd_rg _ _)))) (fun _ => ?_)
  refine rg_if (fun _ => rg_if (fun _ => L _ (by omega) (by omega)) (fun _ => L _ (by omega) (by omega))) (fun _ => ?_)
  refine rg_if (fun _ => rg_if (fun _ => L _ (by omega) (by omega)) (fun _ => rg_if (fun _ => L _ (by omega) (by omega)) (fun _ => rg_if (fun _ => by have := nO_rg (G gr 0 1 + 1); exact L _ (by omega) (by omega)) (fun _ => rg_if (fun _ => by have := nO_rg (sOf (G gr 0 1) (G gr 0 5) (G gr 0 6) n jr); exact L _ (by omega) (by omega)) (fun _ => L _ (by omega) (by omega)))))) (fun _ => ?_)
  refine rg_if (fun _ => rg_if (fun _ => L _ (by omega) (by omega)) (fun _ => rg_if (fun _ => L _ (by omega) (by omega)) (fun _ => rg_if (fun _ => (h gr (by omega) (by omega)).2.2.1 _ (by omega) (by omega)) (fun _ => L _ (by omega) (by omega))))) (fun _ => ?_)
  refine rg_if (fun _ => rg_if (fun _ => L _ (by omega) (by omega)) (fun _ => rg_if (fun _ => L _ (by omega) (by omega)) (fun _ => rg_if (fun _ => by have := nO_rg (sOf (G gr 0 1) (G gr 0 5) (G gr 0 6) n jr); exact L _ (by omega) (by omega)) (fun _ => L _ (by omega) (by omega))))) (fun _ => L _ (by omega) (by omega))
/-- the orders of a text, from a place on -/
abbrev oSN (sg : Int → Int) (le ps : Int) (N : zSt) : zSt := oS (Sg sg le ps) (Sg sg le (ps + 1) - 48) (nOO sg le ps) (dOO sg le ps) (N.1 0) (N.1 1) (N.1 2) (N.1 3) (N.1 4) (N.1 5) N.2
abbrev oRN (sg : Int → Int) (le ps : Int) (N : zSt) : Int := oR (Sg sg le ps) (Sg sg le (ps + 1) - 48) (nOO sg le ps) (dOO sg le ps) (N.1 0) (N.1 1) (N.1 2) (N.1 3) (N.1 4) (N.1 5) N.2
def coC (sg : Int → Int) (le : Int) : Nat → Int → Int → zSt → Int × zSt
  | 0, _, dn, N => (dn, N)
  | k + 1, ps, dn, N => if ps = 0 ∨ Sg sg le (ps - 1) = 59 then (if oRN sg le ps N < 0 ∧ ¬ oRN sg le ps N = -6 then (dn, oSN sg le ps N) else coC sg le k (ps + 1) (dn + 1) (oSN sg le ps N)) else coC sg le k (ps + 1) dn N
section
variable {sg : Int → Int} {le ps dn : Int} {N : zSt}
theorem coC_end (h : le ≤ ps) : coC sg le (le - ps).toNat ps dn N = (dn, N) := by
  rw [show (le - ps).toNat = 0 by omega]
  rfl
theorem coC_un (h : ¬ le ≤ ps) : coC sg le (le - ps).toNat ps dn N = if ps = 0 ∨ Sg sg le (ps - 1) = 59 then (if oRN sg le ps N < 0 ∧ ¬ oRN sg le ps N = -6 then (dn, oSN sg le ps N) else coC sg le (le - (ps + 1)).toNat (ps + 1) (dn + 1) (oSN sg le ps N)) else coC sg le (le - (ps + 1)).toNat (ps + 1) dn N := by
  obtain ⟨n, hn⟩ : ∃ n : Nat, (le - ps).toNat = n + 1 := ⟨(le - ps).toNat - 1, by omega⟩
  rw [hn, show (le - (ps + 1)).toNat = n by omega]
  rfl
theorem coC_skip (h : ¬ le ≤ ps) (h2 : ¬ (ps = 0 ∨ Sg sg le (ps - 1) = 59)) : coC sg le (le - ps).toNat ps dn N = coC sg le (le - (ps + 1)).toNat (ps + 1) dn N := by rw [coC_un h, if_neg h2]
theorem coC_go (h : ¬ le ≤ ps) (h2 : ps = 0 ∨ Sg sg le (ps - 1) = 59) (h3 : ¬ (oRN sg le ps N < 0 ∧ ¬ oRN sg le ps N = -6)) : coC sg le (le - ps).toNat ps dn N = coC sg le (le - (ps + 1)).toNat (ps + 1) (dn + 1) (oSN sg le ps N) := by rw [coC_un h, if_pos h2, if_neg h3]
theorem coC_err (h : ¬ le ≤ ps) (h2 : ps = 0 ∨ Sg sg le (ps - 1) = 59) (h3 : oRN sg le ps N < 0 ∧ ¬ oRN sg le ps N = -6) : coC sg le (le - ps).toNat ps dn N = (dn, oSN sg le ps N) := by rw [coC_un h, if_pos h2, if_pos h3]
end
