section
variable {B un le jb jr lf jf rd vr pm ty om st wr gr k n d w sn cu pl : Int} {svd sg z pa sl msv pd sp od : Int → Int} {hv sv : Int → zSt} {G : Int → zGr}

theorem L_ofGroup (h : Rel B un svd sg le hv sv jb jr lf jf rd vr G z pa sl msv pd pm ty) (hB : B ≤ 100000000) : (if ¬ (0 ≤ gr ∧ gr ≤ 5) then -1 else if k = 0 then G gr 0 0 else if k = 1 then G gr 0 2 else if k = 2 then cHo (G gr 0 1) (G gr 0 2) (G gr 1) else if k = 3 then nO (G gr 0 1) else if k = 4 then G gr 0 3 else if k = 5 then G gr 0 4 else if k = 6 then cSu (G gr 0 1) (G gr 0 2) (G gr 1) else -2) = (if ¬ (0 ≤ gr ∧ gr ≤ 5) then -1 else if k = 0 ∨ k = 1 then zg z gr k else if k = 2 then mHoles z gr else if 3 ≤ k ∧ k ≤ 5 then zg z gr (k - 1) else if k = 6 then mSum z gr else -2) ∧ Rel (B + 100) un svd sg le hv sv jb jr lf jf rd vr G z pa sl msv pd pm ty := by
  exact ⟨(q_about h.1.1).symm, h.mono (by omega)⟩
theorem L_generation (h : Rel B un svd sg le hv sv jb jr lf jf rd vr G z pa sl msv pd pm ty) (hB : B ≤ 100000000) : (if ¬ (0 ≤ gr ∧ gr ≤ 5 ∧ 0 ≤ pl ∧ pl < G gr 0 2) then -1 else if k = 0 then nO (G gr 0 1 - pl) else if k = 1 then G gr 1 ((G gr 0 1 - pl) % 8) else if k = 2 then (if G gr 1 ((G gr 0 1 - pl) % 8) = -6 then 1 else 0) else if k = 3 then G gr 2 ((G gr 0 1 - pl) % 8) else if k = 4 then G gr 3 ((G gr 0 1 - pl) % 8) else if k = 5 then (if ¬ jr = 0 ∧ ¬ G gr 1 ((G gr 0 1 - pl) % 8) = -6 then nFJ (G gr 0 5) (G gr 0 6) (G gr 0 1 - pl) else -6) else -2) = (if ¬ (0 ≤ gr ∧ gr ≤ 5 ∧ 0 ≤ pl ∧ pl ≤ zg z gr 1 - 1) then -1 else if k = 0 then zg z gr (15 + 5 * pl + 1) else if k = 1 then zg z gr (15 + 5 * pl + 2) else if k = 2 then (if zg z gr (15 + 5 * pl + 2) = -6 then 1 else 0) else if k = 3 then zg z gr (15 + 5 * pl + 3) else if k = 4 then zg z gr (15 + 5 * pl + 4) else if k = 5 then mNameOf z gr pl else -2) ∧ Rel (B + 100) un svd sg le hv sv jb jr lf jf rd vr G z pa sl msv pd pm ty := by
  exact ⟨(q_gen h.1.1).symm, h.mono (by omega)⟩
theorem L_named (h : Rel B un svd sg le hv sv jb jr lf jf rd vr G z pa sl msv pd pm ty) (hB : B ≤ 100000000) : (if ¬ (0 ≤ gr ∧ gr ≤ 5) then -1 else if ¬ (-7 ≤ n ∧ n ≤ 1) then -2 else nIT (G gr 0 1) (G gr 0 2) (G gr 1) (sOf (G gr 0 1) (G gr 0 5) (G gr 0 6) n jr)) = (if ¬ (0 ≤ gr ∧ gr ≤ 5) then -1 else if ¬ (-7 ≤ n ∧ n ≤ 1) then -2 else if mTold z gr n = -6 then -6 else zg z gr (15 + 5 * (mTold z gr n) + 1)) ∧ Rel (B + 100) un svd sg le hv sv jb jr lf jf rd vr G z pa sl msv pd pm ty := by
  exact ⟨(q_named h.1.1).symm, h.mono (by omega)⟩
theorem L_groups (h : Rel B un svd sg le hv sv jb jr lf jf rd vr G z pa sl msv pd pm ty) (hB : B ≤ 100000000) : (if ¬ (0 ≤ k ∧ k ≤ 2) then -2 else sSet jr G k) = (if ¬ (0 ≤ k ∧ k ≤ 2) then -2 else mSet z k) ∧ Rel (B + 100) un svd sg le hv sv jb jr lf jf rd vr G z pa sl msv pd pm ty := by
  exact ⟨(q_groups h.1.1).symm, h.mono (by omega)⟩
theorem L_rolls (h : Rel B un svd sg le hv sv jb jr lf jf rd vr G z pa sl msv pd pm ty) (hB : B ≤ 100000000) : (if ¬ (0 ≤ gr ∧ gr ≤ 5) then -1 else if G gr 0 0 ≤ G gr 0 2 then nIT (G gr 0 1) (G gr 0 2) (G gr 1) (G gr 0 1 - G gr 0 2 + 1) else -6) = (if ¬ (0 ≤ gr ∧ gr ≤ 5) then -1 else if zg z gr 1 < zg z gr 0 then -6 else zg z gr (15 + 5 * (zg z gr 1 - 1) + 1)) ∧ Rel (B + 100) un svd sg le hv sv jb jr lf jf rd vr G z pa sl msv pd pm ty := by
  exact ⟨(q_rolls h.1.1).symm, h.mono (by omega)⟩
theorem L_leastKeep (h : Rel B un svd sg le hv sv jb jr lf jf rd vr G z pa sl msv pd pm ty) (hB : B ≤ 100000000) : (if ¬ (0 ≤ gr ∧ gr ≤ 5) then -1 else if 1 < G gr 0 2 then G gr 0 2 else 1) = (if ¬ (0 ≤ gr ∧ gr ≤ 5) then -1 else if zg z gr 1 < 1 then 1 else zg z gr 1) ∧ Rel (B + 100) un svd sg le hv sv jb jr lf jf rd vr G z pa sl msv pd pm ty := by
  exact ⟨(q_least h.1.1).symm, h.mono (by omega)⟩
theorem L_count (h : Rel B un svd sg le hv sv jb jr lf jf rd vr G z pa sl msv pd pm ty) (hB : B ≤ 100000000) : (if k = 8 then le else if k = 9 then un else if k = 0 then jb else if k = 1 then (if jr = 0 then 0 else 1) else if k = 2 then jf else if k = 3 then sCT G else if k = 4 then sCH G else if k = 5 then rd else if k = 6 then vr else if k = 7 then sMd jr G else -2) = (if k = 0 then z 0 else if k = 1 then z 1 else if k = 2 then z 3 else if k = 3 then mWholes z else if k = 4 then mAllHoles z else if k = 5 then z 4 else if k = 6 then z 5 else if k = 7 then mMany7 z else if k = 8 then ty else if k = 9 then pm else -2) ∧ Rel (B + 100) un svd sg le hv sv jb jr lf jf rd vr G z pa sl msv pd pm ty := by
  obtain ⟨hT, hH, hS, hP⟩ := h
  obtain rfl := hH.1
  obtain rfl := hP.2.1
  exact ⟨(q_count hT.1).symm, Rel.mono ⟨hT, hH, hS, hP⟩ (by omega)⟩
theorem L_ifFailed (h : Rel B un svd sg le hv sv jb jr lf jf rd vr G z pa sl msv pd pm ty) (hB : B ≤ 100000000) : (if ¬ (0 ≤ gr ∧ gr ≤ 5) then -1 else if ¬ jr = 0 ∧ ¬ G gr 0 6 = 0 then -6 else nIT (G gr 0 1) (G gr 0 2) (G gr 1) (G gr 0 1)) = (if ¬ (0 ≤ gr ∧ gr ≤ 5) then -1 else if mTold (mIfF z) gr 0 = -6 then -6 else zg (mIfF z) gr (15 + 5 * (mTold (mIfF z) gr 0) + 1)) ∧ Rel (B + 100) un svd sg le hv sv jb jr lf jf rd vr G (if 0 ≤ gr ∧ gr ≤ 5 then copyR (mIfF z) (copyR sp z) else z) pa sl msv pd pm ty := by
  refine ⟨(q_ifFailed h.1.1).symm, ?_⟩
  have h2 := h.mono (show B ≤ B + 100 by omega)
  refine ⟨h2.1.row (fun j a b => ?_), h2.2⟩
  by_cases c : 0 ≤ gr ∧ gr ≤ 5
  · rw [if_pos c, copyR_at, if_pos ⟨a, b⟩, copyR_at, if_pos ⟨a, b⟩]
  · rw [if_neg c]
theorem L_keep (h : Rel B un svd sg le hv sv jb jr lf jf rd vr G z pa sl msv pd pm ty) (hB : B ≤ 100000000) : (if ¬ (0 ≤ gr ∧ gr ≤ 5) then -1 else if ¬ (1 ≤ k ∧ k ≤ 8) then -2 else G gr 0 0) = (if ¬ (0 ≤ gr ∧ gr ≤ 5) then -1 else if ¬ (1 ≤ k ∧ k ≤ 8) then -2 else zg z gr 0) ∧ Rel (B + 100) (recU (if ¬ (0 ≤ gr ∧ gr ≤ 5) then -1 else if ¬ (1 ≤ k ∧ k ≤ 8) then -2 else G gr 0 0) un) svd sg le (recA (if ¬ (0 ≤ gr ∧ gr ≤ 5) then -1 else if ¬ (1 ≤ k ∧ k ≤ 8) then -2 else G gr 0 0) un (hU hv un (cpS (hv un) jb jr lf jf rd vr G))) sv jb jr lf jf rd vr (if 0 ≤ gr ∧ gr ≤ 5 ∧ 1 ≤ k ∧ k ≤ 8 then gU G gr (xK (G gr) k) else G) (if 0 ≤ gr ∧ gr ≤ 5 ∧ 1 ≤ k ∧ k ≤ 8 then mRoll (zs z gr 0 k) gr else z) (if 0 ≤ gr ∧ gr ≤ 5 ∧ 1 ≤ k ∧ k ≤ 8 then recP z pa pm else pa) sl msv pd (if 0 ≤ gr ∧ gr ≤ 5 ∧ 1 ≤ k ∧ k ≤ 8 then recM pm else pm) ty := by
  by_cases a : ¬ (0 ≤ gr ∧ gr ≤ 5)
  · simp only [if_pos a, if_neg (show ¬ (0 ≤ gr ∧ gr ≤ 5 ∧ 1 ≤ k ∧ k ≤ 8) by omega)]
    exact ⟨by first | rfl | trivial, Rel_er h (by omega) (by omega) (by omega)⟩
  by_cases b : ¬ (1 ≤ k ∧ k ≤ 8)
  · simp only [if_neg a, if_pos b, if_neg (show ¬ (0 ≤ gr ∧ gr ≤ 5 ∧ 1 ≤ k ∧ k ≤ 8) by omega)]
    exact ⟨by first | rfl | trivial, Rel_er h (by omega) (by omega) (by omega)⟩
  obtain ⟨k1, k2, k3⟩ := k_keep (g := gr) (n := k) h.1 (by omega) (by omega)
  simp only [if_neg a, if_neg b, if_pos (show 0 ≤ gr ∧ gr ≤ 5 ∧ 1 ≤ k ∧ k ≤ 8 by omega), k2]
  exact ⟨by first | rfl | trivial, Rel_ok h (by omega) (by omega) (by omega) (k1.le (by omega))⟩
theorem L_write (h : Rel B un svd sg le hv sv jb jr lf jf rd vr G z pa sl msv pd pm ty) (hB : B ≤ 100000000) : (if ¬ (0 ≤ gr ∧ gr ≤ 5) then -1 else if ¬ (-7 ≤ n ∧ n ≤ 1 ∧ 0 ≤ d ∧ d ≤ 9999) then -2 else if (n = 1 ∧ ¬ (¬ jr = 0 ∧ ¬ G gr 0 6 = 0)) then nO (G gr 0 1 + 1) else if thP (G gr 0 1) (G gr 0 2) (G gr 1) (sOf (G gr 0 1) (G gr 0 5) (G gr 0 6) n jr) then nO (sOf (G gr 0 1) (G gr 0 5) (G gr 0 6) n jr) else -5) = (if ¬ (0 ≤ gr ∧ gr ≤ 5) then -1 else if ¬ (-7 ≤ n ∧ n ≤ 1 ∧ 0 ≤ d ∧ d ≤ 9999) then -2 else if ¬ ((n = 1 ∧ (¬ z 1 = 1 ∨ zg z gr 5 = 0)) ∨ ¬ mTold z gr n = -6) then -5 else mWriteR z gr n d) ∧ Rel (B + 100) (recU (if ¬ (0 ≤ gr ∧ gr ≤ 5) then -1 else if ¬ (-7 ≤ n ∧ n ≤ 1 ∧ 0 ≤ d ∧ d ≤ 9999) then -2 else if (n = 1 ∧ ¬ (¬ jr = 0 ∧ ¬ G gr 0 6 = 0)) then nO (G gr 0 1 + 1) else if thP (G gr 0 1) (G gr 0 2) (G gr 1) (sOf (G gr 0 1) (G gr 0 5) (G gr 0 6) n jr) then nO (sOf (G gr 0 1) (G gr 0 5) (G gr 0 6) n jr) else -5) un) svd sg le (recA (if ¬ (0 ≤ gr ∧ gr ≤ 5) then -1 else if ¬ (-7 ≤ n ∧ n ≤ 1 ∧ 0 ≤ d ∧ d ≤ 9999) then -2 else if (n = 1 ∧ ¬ (¬ jr = 0 ∧ ¬ G gr 0 6 = 0)) then nO (G gr 0 1 + 1) else if thP (G gr 0 1) (G gr 0 2) (G gr 1) (sOf (G gr 0 1) (G gr 0 5) (G gr 0 6) n jr) then nO (sOf (G gr 0 1) (G gr 0 5) (G gr 0 6) n jr) else -5) un (hU hv un (cpS (hv un) jb jr lf jf rd vr G))) sv jb jr lf jf rd vr (if 0 ≤ gr ∧ gr ≤ 5 ∧ -7 ≤ n ∧ n ≤ 1 ∧ 0 ≤ d ∧ d ≤ 9999 then (if (n = 1 ∧ ¬ (¬ jr = 0 ∧ ¬ G gr 0 6 = 0)) then gU G gr (xMk (G gr) d (if jr = 0 then 0 else jb)) else if thP (G gr 0 1) (G gr 0 2) (G gr 1) (sOf (G gr 0 1) (G gr 0 5) (G gr 0 6) n jr) then gU G gr (xDa (G gr) (sOf (G gr 0 1) (G gr 0 5) (G gr 0 6) n jr) d) else G) else G) (if 0 ≤ gr ∧ gr ≤ 5 ∧ -7 ≤ n ∧ n ≤ 1 ∧ 0 ≤ d ∧ d ≤ 9999 ∧ ((n = 1 ∧ (¬ z 1 = 1 ∨ zg z gr 5 = 0)) ∨ ¬ mTold z gr n = -6) then mWrite z gr n d else z) (if 0 ≤ gr ∧ gr ≤ 5 ∧ -7 ≤ n ∧ n ≤ 1 ∧ 0 ≤ d ∧ d ≤ 9999 ∧ ((n = 1 ∧ (¬ z 1 = 1 ∨ zg z gr 5 = 0)) ∨ ¬ mTold z gr n = -6) then recP z pa pm else pa) sl msv pd (if 0 ≤ gr ∧ gr ≤ 5 ∧ -7 ≤ n ∧ n ≤ 1 ∧ 0 ≤ d ∧ d ≤ 9999 ∧ ((n = 1 ∧ (¬ z 1 = 1 ∨ zg z gr 5 = 0)) ∨ ¬ mTold z gr n = -6) then recM pm else pm) ty := by
  by_cases a : ¬ (0 ≤ gr ∧ gr ≤ 5)
  · simp only [if_pos a, if_neg (show ¬ (0 ≤ gr ∧ gr ≤ 5 ∧ -7 ≤ n ∧ n ≤ 1 ∧ 0 ≤ d ∧ d ≤ 9999) by omega), if_neg (show ¬ (0 ≤ gr ∧ gr ≤ 5 ∧ -7 ≤ n ∧ n ≤ 1 ∧ 0 ≤ d ∧ d ≤ 9999 ∧ ((n = 1 ∧ (¬ z 1 = 1 ∨ zg z gr 5 = 0)) ∨ ¬ mTold z gr n = -6)) from fun q => a ⟨q.1, q.2.1⟩)]
    exact ⟨by first | rfl | trivial, Rel_er h (by omega) (by omega) (by omega)⟩
  by_cases b : ¬ (-7 ≤ n ∧ n ≤ 1 ∧ 0 ≤ d ∧ d ≤ 9999)
  · simp only [if_neg a, if_pos b, if_neg (show ¬ (0 ≤ gr ∧ gr ≤ 5 ∧ -7 ≤ n ∧ n ≤ 1 ∧ 0 ≤ d ∧ d ≤ 9999) by omega), if_neg (show ¬ (0 ≤ gr ∧ gr ≤ 5 ∧ -7 ≤ n ∧ n ≤ 1 ∧ 0 ≤ d ∧ d ≤ 9999 ∧ ((n = 1 ∧ (¬ z 1 = 1 ∨ zg z gr 5 = 0)) ∨ ¬ mTold z gr n = -6)) from fun q => b ⟨q.2.2.1, q.2.2.2.1, q.2.2.2.2.1, q.2.2.2.2.2.1⟩)]
    exact ⟨by first | rfl | trivial, Rel_er h (by omega) (by omega) (by omega)⟩
  by_cases c : ((n = 1 ∧ (¬ z 1 = 1 ∨ zg z gr 5 = 0)) ∨ ¬ mTold z gr n = -6)
  · obtain ⟨k1, k2, k3⟩ := k_write (g := gr) (n := n) (d := d) h.1 (by omega) (by omega) (by omega) (by omega) c
    simp only [if_neg a, if_neg b, if_pos (show 0 ≤ gr ∧ gr ≤ 5 ∧ -7 ≤ n ∧ n ≤ 1 ∧ 0 ≤ d ∧ d ≤ 9999 by omega), if_pos (show 0 ≤ gr ∧ gr ≤ 5 ∧ -7 ≤ n ∧ n ≤ 1 ∧ 0 ≤ d ∧ d ≤ 9999 ∧ ((n = 1 ∧ (¬ z 1 = 1 ∨ zg z gr 5 = 0)) ∨ ¬ mTold z gr n = -6) from ⟨by omega, by omega, by omega, by omega, by omega, by omega, c⟩), if_neg (show ¬ ¬ ((n = 1 ∧ (¬ z 1 = 1 ∨ zg z gr 5 = 0)) ∨ ¬ mTold z gr n = -6) from fun q => q c)]
    rw [← k2]
    exact ⟨by first | rfl | trivial, Rel_ok h (by omega) (by omega) (by omega) (k1.le (by omega))⟩
  · obtain ⟨k1, k2⟩ := k_write_no (g := gr) (n := n) h.1 (by omega) (by omega) c
    simp only [if_neg a, if_neg b, if_pos (show 0 ≤ gr ∧ gr ≤ 5 ∧ -7 ≤ n ∧ n ≤ 1 ∧ 0 ≤ d ∧ d ≤ 9999 by omega), if_neg (show ¬ (0 ≤ gr ∧ gr ≤ 5 ∧ -7 ≤ n ∧ n ≤ 1 ∧ 0 ≤ d ∧ d ≤ 9999 ∧ ((n = 1 ∧ (¬ z 1 = 1 ∨ zg z gr 5 = 0)) ∨ ¬ mTold z gr n = -6)) from fun q => c q.2.2.2.2.2.2), if_pos c, if_neg k1, if_neg k2]
    exact ⟨by first | rfl | trivial, Rel_er h (by omega) (by omega) (by omega)⟩
theorem L_read (h : Rel B un svd sg le hv sv jb jr lf jf rd vr G z pa sl msv pd pm ty) (hB : B ≤ 100000000) : (if ¬ (0 ≤ gr ∧ gr ≤ 5) then -1 else if ¬ (-7 ≤ n ∧ n ≤ 1) then -2 else if thP (G gr 0 1) (G gr 0 2) (G gr 1) (sOf (G gr 0 1) (G gr 0 5) (G gr 0 6) n jr) then G gr 1 ((sOf (G gr 0 1) (G gr 0 5) (G gr 0 6) n jr) % 8) else -6) = (if ¬ (0 ≤ gr ∧ gr ≤ 5) then -1 else if ¬ (-7 ≤ n ∧ n ≤ 1) then -2 else mReadR z gr n) ∧ Rel (B + 100) (recU (if ¬ (0 ≤ gr ∧ gr ≤ 5) then -1 else if ¬ (-7 ≤ n ∧ n ≤ 1) then -2 else if thP (G gr 0 1) (G gr 0 2) (G gr 1) (sOf (G gr 0 1) (G gr 0 5) (G gr 0 6) n jr) then G gr 1 ((sOf (G gr 0 1) (G gr 0 5) (G gr 0 6) n jr) % 8) else -6) un) svd sg le (recA (if ¬ (0 ≤ gr ∧ gr ≤ 5) then -1 else if ¬ (-7 ≤ n ∧ n ≤ 1) then -2 else if thP (G gr 0 1) (G gr 0 2) (G gr 1) (sOf (G gr 0 1) (G gr 0 5) (G gr 0 6) n jr) then G gr 1 ((sOf (G gr 0 1) (G gr 0 5) (G gr 0 6) n jr) % 8) else -6) un (hU hv un (cpS (hv un) jb jr lf jf rd vr G))) sv jb jr lf jf (if 0 ≤ gr ∧ gr ≤ 5 ∧ -7 ≤ n ∧ n ≤ 1 then rd + 1 else rd) (if 0 ≤ gr ∧ gr ≤ 5 ∧ -7 ≤ n ∧ n ≤ 1 ∧ ¬ thP (G gr 0 1) (G gr 0 2) (G gr 1) (sOf (G gr 0 1) (G gr 0 5) (G gr 0 6) n jr) then vr + 1 else vr) (if 0 ≤ gr ∧ gr ≤ 5 ∧ -7 ≤ n ∧ n ≤ 1 ∧ thP (G gr 0 1) (G gr 0 2) (G gr 1) (sOf (G gr 0 1) (G gr 0 5) (G gr 0 6) n jr) then gU G gr (xRe (G gr) (sOf (G gr 0 1) (G gr 0 5) (G gr 0 6) n jr)) else G) (if 0 ≤ gr ∧ gr ≤ 5 ∧ -7 ≤ n ∧ n ≤ 1 then mRead z gr n else z) (if 0 ≤ gr ∧ gr ≤ 5 ∧ -7 ≤ n ∧ n ≤ 1 then recP z pa pm else pa) sl msv pd (if 0 ≤ gr ∧ gr ≤ 5 ∧ -7 ≤ n ∧ n ≤ 1 then recM pm else pm) ty := by
  by_cases a : ¬ (0 ≤ gr ∧ gr ≤ 5)
  · simp only [if_pos a, if_neg (show ¬ (0 ≤ gr ∧ gr ≤ 5 ∧ -7 ≤ n ∧ n ≤ 1) by omega), if_neg (show ¬ (0 ≤ gr ∧ gr ≤ 5 ∧ -7 ≤ n ∧ n ≤ 1 ∧ ¬ thP (G gr 0 1) (G gr 0 2) (G gr 1) (sOf (G gr 0 1) (G gr 0 5) (G gr 0 6) n jr)) from fun q => a ⟨q.1, q.2.1⟩), if_neg (show ¬ (0 ≤ gr ∧ gr ≤ 5 ∧ -7 ≤ n ∧ n ≤ 1 ∧ thP (G gr 0 1) (G gr 0 2) (G gr 1) (sOf (G gr 0 1) (G gr 0 5) (G gr 0 6) n jr)) from fun q => a ⟨q.1, q.2.1⟩)]
    exact ⟨by first | rfl | trivial, Rel_er h (by omega) (by omega) (by omega)⟩
  by_cases b : ¬ (-7 ≤ n ∧ n ≤ 1)
  · simp only [if_neg a, if_pos b, if_neg (show ¬ (0 ≤ gr ∧ gr ≤ 5 ∧ -7 ≤ n ∧ n ≤ 1) by omega), if_neg (show ¬ (0 ≤ gr ∧ gr ≤ 5 ∧ -7 ≤ n ∧ n ≤ 1 ∧ ¬ thP (G gr 0 1) (G gr 0 2) (G gr 1) (sOf (G gr 0 1) (G gr 0 5) (G gr 0 6) n jr)) from fun q => b ⟨q.2.2.1, q.2.2.2.1⟩), if_neg (show ¬ (0 ≤ gr ∧ gr ≤ 5 ∧ -7 ≤ n ∧ n ≤ 1 ∧ thP (G gr 0 1) (G gr 0 2) (G gr 1) (sOf (G gr 0 1) (G gr 0 5) (G gr 0 6) n jr)) from fun q => b ⟨q.2.2.1, q.2.2.2.1⟩)]
    exact ⟨by first | rfl | trivial, Rel_er h (by omega) (by omega) (by omega)⟩
  obtain ⟨k1, k2, k3⟩ := k_read (g := gr) (n := n) h.1 (by omega) (by omega)
  by_cases t : thP (G gr 0 1) (G gr 0 2) (G gr 1) (sOf (G gr 0 1) (G gr 0 5) (G gr 0 6) n jr)
  · simp only [if_pos t, if_neg (show ¬ ¬ thP (G gr 0 1) (G gr 0 2) (G gr 1) (sOf (G gr 0 1) (G gr 0 5) (G gr 0 6) n jr) from fun q => q t)] at k1 k2
    simp only [if_neg a, if_neg b, if_pos (show 0 ≤ gr ∧ gr ≤ 5 ∧ -7 ≤ n ∧ n ≤ 1 by omega), if_neg (show ¬ (0 ≤ gr ∧ gr ≤ 5 ∧ -7 ≤ n ∧ n ≤ 1 ∧ ¬ thP (G gr 0 1) (G gr 0 2) (G gr 1) (sOf (G gr 0 1) (G gr 0 5) (G gr 0 6) n jr)) from fun q => q.2.2.2.2 t), if_pos (show 0 ≤ gr ∧ gr ≤ 5 ∧ -7 ≤ n ∧ n ≤ 1 ∧ thP (G gr 0 1) (G gr 0 2) (G gr 1) (sOf (G gr 0 1) (G gr 0 5) (G gr 0 6) n jr) from ⟨by omega, by omega, by omega, by omega, t⟩), if_pos t]
    rw [← k2]
    exact ⟨by first | rfl | trivial, Rel_ok h (by omega) (by omega) (by omega) (k1.le (by omega))⟩
  · simp only [if_neg t, if_pos (show ¬ thP (G gr 0 1) (G gr 0 2) (G gr 1) (sOf (G gr 0 1) (G gr 0 5) (G gr 0 6) n jr) from t)] at k1 k2
    simp only [if_neg a, if_neg b, if_pos (show 0 ≤ gr ∧ gr ≤ 5 ∧ -7 ≤ n ∧ n ≤ 1 by omega), if_pos (show 0 ≤ gr ∧ gr ≤ 5 ∧ -7 ≤ n ∧ n ≤ 1 ∧ ¬ thP (G gr 0 1) (G gr 0 2) (G gr 1) (sOf (G gr 0 1) (G gr 0 5) (G gr 0 6) n jr) from ⟨by omega, by omega, by omega, by omega, t⟩), if_neg (show ¬ (0 ≤ gr ∧ gr ≤ 5 ∧ -7 ≤ n ∧ n ≤ 1 ∧ thP (G gr 0 1) (G gr 0 2) (G gr 1) (sOf (G gr 0 1) (G gr 0 5) (G gr 0 6) n jr)) from fun q => t q.2.2.2.2), if_neg t]
    rw [k2]
    exact ⟨by first | rfl | trivial, Rel_ok h (by omega) (by omega) (by omega) (k1.le (by omega))⟩
theorem L_delete (h : Rel B un svd sg le hv sv jb jr lf jf rd vr G z pa sl msv pd pm ty) (hB : B ≤ 100000000) : (if ¬ (0 ≤ gr ∧ gr ≤ 5) then -1 else if ¬ (-7 ≤ n ∧ n ≤ 1) then -2 else if thP (G gr 0 1) (G gr 0 2) (G gr 1) (sOf (G gr 0 1) (G gr 0 5) (G gr 0 6) n jr) then nO (sOf (G gr 0 1) (G gr 0 5) (G gr 0 6) n jr) else -5) = (if ¬ (0 ≤ gr ∧ gr ≤ 5) then -1 else if ¬ (-7 ≤ n ∧ n ≤ 1) then -2 else if mTold z gr n = -6 then -5 else zg z gr (15 + 5 * (mTold z gr n) + 1)) ∧ Rel (B + 100) (recU (if ¬ (0 ≤ gr ∧ gr ≤ 5) then -1 else if ¬ (-7 ≤ n ∧ n ≤ 1) then -2 else if thP (G gr 0 1) (G gr 0 2) (G gr 1) (sOf (G gr 0 1) (G gr 0 5) (G gr 0 6) n jr) then nO (sOf (G gr 0 1) (G gr 0 5) (G gr 0 6) n jr) else -5) un) svd sg le (recA (if ¬ (0 ≤ gr ∧ gr ≤ 5) then -1 else if ¬ (-7 ≤ n ∧ n ≤ 1) then -2 else if thP (G gr 0 1) (G gr 0 2) (G gr 1) (sOf (G gr 0 1) (G gr 0 5) (G gr 0 6) n jr) then nO (sOf (G gr 0 1) (G gr 0 5) (G gr 0 6) n jr) else -5) un (hU hv un (cpS (hv un) jb jr lf jf rd vr G))) sv jb jr lf jf rd vr (if 0 ≤ gr ∧ gr ≤ 5 ∧ -7 ≤ n ∧ n ≤ 1 ∧ thP (G gr 0 1) (G gr 0 2) (G gr 1) (sOf (G gr 0 1) (G gr 0 5) (G gr 0 6) n jr) then gU G gr (xHo (G gr) (sOf (G gr 0 1) (G gr 0 5) (G gr 0 6) n jr)) else G) (if 0 ≤ gr ∧ gr ≤ 5 ∧ -7 ≤ n ∧ n ≤ 1 ∧ ¬ mTold z gr n = -6 then mDel z gr (mTold z gr n) else z) (if 0 ≤ gr ∧ gr ≤ 5 ∧ -7 ≤ n ∧ n ≤ 1 ∧ ¬ mTold z gr n = -6 then recP z pa pm else pa) sl msv pd (if 0 ≤ gr ∧ gr ≤ 5 ∧ -7 ≤ n ∧ n ≤ 1 ∧ ¬ mTold z gr n = -6 then recM pm else pm) ty := by
  by_cases a : ¬ (0 ≤ gr ∧ gr ≤ 5)
  · simp only [if_pos a, if_neg (show ¬ (0 ≤ gr ∧ gr ≤ 5 ∧ -7 ≤ n ∧ n ≤ 1 ∧ thP (G gr 0 1) (G gr 0 2) (G gr 1) (sOf (G gr 0 1) (G gr 0 5) (G gr 0 6) n jr)) from fun q => a ⟨q.1, q.2.1⟩), if_neg (show ¬ (0 ≤ gr ∧ gr ≤ 5 ∧ -7 ≤ n ∧ n ≤ 1 ∧ ¬ mTold z gr n = -6) from fun q => a ⟨q.1, q.2.1⟩)]
    exact ⟨by first | rfl | trivial, Rel_er h (by omega) (by omega) (by omega)⟩
  by_cases b : ¬ (-7 ≤ n ∧ n ≤ 1)
  · simp only [if_neg a, if_pos b, if_neg (show ¬ (0 ≤ gr ∧ gr ≤ 5 ∧ -7 ≤ n ∧ n ≤ 1 ∧ thP (G gr 0 1) (G gr 0 2) (G gr 1) (sOf (G gr 0 1) (G gr 0 5) (G gr 0 6) n jr)) from fun q => b ⟨q.2.2.1, q.2.2.2.1⟩), if_neg (show ¬ (0 ≤ gr ∧ gr ≤ 5 ∧ -7 ≤ n ∧ n ≤ 1 ∧ ¬ mTold z gr n = -6) from fun q => b ⟨q.2.2.1, q.2.2.2.1⟩)]
    exact ⟨by first | rfl | trivial, Rel_er h (by omega) (by omega) (by omega)⟩
  by_cases c : mTold z gr n = -6
  · have t : ¬ thP (G gr 0 1) (G gr 0 2) (G gr 1) (sOf (G gr 0 1) (G gr 0 5) (G gr 0 6) n jr) := fun q => (w_iff (n := n) h.1.1 (g := gr) (by omega) (by omega)).2.2 q c
    simp only [if_neg a, if_neg b, if_neg (show ¬ (0 ≤ gr ∧ gr ≤ 5 ∧ -7 ≤ n ∧ n ≤ 1 ∧ thP (G gr 0 1) (G gr 0 2) (G gr 1) (sOf (G gr 0 1) (G gr 0 5) (G gr 0 6) n jr)) from fun q => t q.2.2.2.2), if_neg (show ¬ (0 ≤ gr ∧ gr ≤ 5 ∧ -7 ≤ n ∧ n ≤ 1 ∧ ¬ mTold z gr n = -6) from fun q => q.2.2.2.2 c), if_neg t, if_pos c]
    exact ⟨by first | rfl | trivial, Rel_er h (by omega) (by omega) (by omega)⟩
  · obtain ⟨k0, k1, k2⟩ := k_del (g := gr) (n := n) h.1 (by omega) (by omega) c
    have k3 := (nO_rg (sOf (G gr 0 1) (G gr 0 5) (G gr 0 6) n jr)).1
    simp only [if_neg a, if_neg b, if_pos (show 0 ≤ gr ∧ gr ≤ 5 ∧ -7 ≤ n ∧ n ≤ 1 ∧ thP (G gr 0 1) (G gr 0 2) (G gr 1) (sOf (G gr 0 1) (G gr 0 5) (G gr 0 6) n jr) from ⟨by omega, by omega, by omega, by omega, k0⟩), if_pos (show 0 ≤ gr ∧ gr ≤ 5 ∧ -7 ≤ n ∧ n ≤ 1 ∧ ¬ mTold z gr n = -6 from ⟨by omega, by omega, by omega, by omega, c⟩), if_pos k0, if_neg c, k2]
    exact ⟨by first | rfl | trivial, Rel_ok h (by omega) (by omega) (by omega) (k1.le (by omega))⟩
theorem L_begin (h : Rel B un svd sg le hv sv jb jr lf jf rd vr G z pa sl msv pd pm ty) (hB : B ≤ 100000000) : (if jr = 0 then jb + 1 else -5) = (if z 1 = 1 then -5 else (mBegin z) 0) ∧ Rel (B + 100) (recU (if jr = 0 then jb + 1 else -5) un) svd sg le (recA (if jr = 0 then jb + 1 else -5) un (hU hv un (cpS (hv un) jb jr lf jf rd vr G))) sv (if jr = 0 then jb + 1 else jb) (if jr = 0 then 1 else jr) lf jf rd vr (if jr = 0 then sSt (sNJ G) else G) (if ¬ z 1 = 1 then mBegin z else z) (if ¬ z 1 = 1 then recP z pa pm else pa) sl msv pd (if ¬ z 1 = 1 then recM pm else pm) ty := by
  obtain ⟨z1, j01, z2, l01, z0, jbb⟩ := h.1.z1
  by_cases a : jr = 0
  · obtain ⟨k1, k2⟩ := k_begin h.1 a
    simp only [if_pos a, if_neg (show ¬ z 1 = 1 by omega), if_pos (show ¬ z 1 = 1 by omega), k2]
    exact ⟨by first | rfl | trivial, Rel_ok h (by omega) (by omega) (by omega) (k1.le (by omega))⟩
  · simp only [if_neg a, if_pos (show z 1 = 1 by omega), if_neg (show ¬ ¬ z 1 = 1 by omega)]
    exact ⟨by first | rfl | trivial, Rel_er h (by omega) (by omega) (by omega)⟩
theorem L_again (h : Rel B un svd sg le hv sv jb jr lf jf rd vr G z pa sl msv pd pm ty) (hB : B ≤ 100000000) : (if jr = 0 ∧ ¬ lf = 0 then jb + 1 else -5) = (if ¬ (¬ z 1 = 1 ∧ z 2 = 1) then -5 else (mStart z) 0) ∧ Rel (B + 100) (recU (if jr = 0 ∧ ¬ lf = 0 then jb + 1 else -5) un) svd sg le (recA (if jr = 0 ∧ ¬ lf = 0 then jb + 1 else -5) un (hU hv un (cpS (hv un) jb jr lf jf rd vr G))) sv (if jr = 0 ∧ ¬ lf = 0 then jb + 1 else jb) (if jr = 0 ∧ ¬ lf = 0 then 1 else jr) lf jf rd vr (if jr = 0 ∧ ¬ lf = 0 then sSt G else G) (if ¬ z 1 = 1 ∧ z 2 = 1 then mStart z else z) (if ¬ z 1 = 1 ∧ z 2 = 1 then recP z pa pm else pa) sl msv pd (if ¬ z 1 = 1 ∧ z 2 = 1 then recM pm else pm) ty := by
  obtain ⟨z1, j01, z2, l01, z0, jbb⟩ := h.1.z1
  by_cases a : jr = 0 ∧ ¬ lf = 0
  · obtain ⟨k1, k2⟩ := k_again h.1
    simp only [if_pos a, if_neg (show ¬ ¬ (¬ z 1 = 1 ∧ z 2 = 1) by omega), if_pos (show ¬ z 1 = 1 ∧ z 2 = 1 by omega), k2]
    exact ⟨by first | rfl | trivial, Rel_ok h (by omega) (by omega) (by omega) (k1.le (by omega))⟩
  · simp only [if_neg a, if_pos (show ¬ (¬ z 1 = 1 ∧ z 2 = 1) by omega), if_neg (show ¬ (¬ z 1 = 1 ∧ z 2 = 1) by omega)]
    exact ⟨by first | rfl | trivial, Rel_er h (by omega) (by omega) (by omega)⟩
theorem L_end (h : Rel B un svd sg le hv sv jb jr lf jf rd vr G z pa sl msv pd pm ty) (hB : B ≤ 100000000) : (if ¬ (0 ≤ w ∧ w ≤ 1) then -2 else if jr = 0 then -5 else sMd jr (sFl (if w = 0 then 1 else 0) G)) = (if ¬ (0 ≤ w ∧ w ≤ 1) then -2 else if ¬ z 1 = 1 then -5 else mMany7 (mFail z w)) ∧ Rel (B + 100) (recU (if ¬ (0 ≤ w ∧ w ≤ 1) then -2 else if jr = 0 then -5 else sMd jr (sFl (if w = 0 then 1 else 0) G)) un) svd sg le (recA (if ¬ (0 ≤ w ∧ w ≤ 1) then -2 else if jr = 0 then -5 else sMd jr (sFl (if w = 0 then 1 else 0) G)) un (hU hv un (cpS (hv un) jb jr lf jf rd vr G))) sv jb (if 0 ≤ w ∧ w ≤ 1 ∧ ¬ jr = 0 then 0 else jr) (if 0 ≤ w ∧ w ≤ 1 ∧ ¬ jr = 0 then (if w = 0 then 1 else 0) else lf) (if 0 ≤ w ∧ w ≤ 1 ∧ ¬ jr = 0 ∧ w = 0 then jf + 1 else jf) rd vr (if 0 ≤ w ∧ w ≤ 1 ∧ ¬ jr = 0 then sFl (if w = 0 then 1 else 0) G else G) (if 0 ≤ w ∧ w ≤ 1 ∧ z 1 = 1 then mEnd z w else z) (if 0 ≤ w ∧ w ≤ 1 ∧ z 1 = 1 then recP z pa pm else pa) sl msv pd (if 0 ≤ w ∧ w ≤ 1 ∧ z 1 = 1 then recM pm else pm) ty := by
  obtain ⟨z1, j01, z2, l01, z0, jbb⟩ := h.1.z1
  by_cases a : ¬ (0 ≤ w ∧ w ≤ 1)
  · simp only [if_pos a, if_neg (show ¬ (0 ≤ w ∧ w ≤ 1 ∧ ¬ jr = 0) by omega), if_neg (show ¬ (0 ≤ w ∧ w ≤ 1 ∧ z 1 = 1) by omega), if_neg (show ¬ (0 ≤ w ∧ w ≤ 1 ∧ ¬ jr = 0 ∧ w = 0) by omega)]
    exact ⟨by first | rfl | trivial, Rel_er h (by omega) (by omega) (by omega)⟩
  by_cases b : jr = 0
  · simp only [if_neg a, if_pos b, if_neg (show ¬ (0 ≤ w ∧ w ≤ 1 ∧ ¬ jr = 0) by omega), if_neg (show ¬ (0 ≤ w ∧ w ≤ 1 ∧ z 1 = 1) by omega), if_neg (show ¬ (0 ≤ w ∧ w ≤ 1 ∧ ¬ jr = 0 ∧ w = 0) by omega), if_pos (show ¬ z 1 = 1 by omega)]
    exact ⟨by first | rfl | trivial, Rel_er h (by omega) (by omega) (by omega)⟩
  obtain ⟨k1, k2⟩ := k_end (w := w) h.1 (by omega) (by omega)
  have k3 := (sMd_rg jr (sFl (if w = 0 then 1 else 0) G)).1
  by_cases c : w = 0
  · simp only [if_pos c] at k1 k2 k3
    simp only [if_neg a, if_neg b, if_pos c, if_pos (show 0 ≤ w ∧ w ≤ 1 ∧ ¬ jr = 0 by omega), if_pos (show 0 ≤ w ∧ w ≤ 1 ∧ z 1 = 1 by omega), if_pos (show 0 ≤ w ∧ w ≤ 1 ∧ ¬ jr = 0 ∧ w = 0 by omega), if_neg (show ¬ ¬ z 1 = 1 by omega), k2]
    exact ⟨by first | rfl | trivial, Rel_ok h (by omega) (by omega) (by omega) (k1.le (by omega))⟩
  · simp only [if_neg c] at k1 k2 k3
    simp only [if_neg a, if_neg b, if_neg c, if_pos (show 0 ≤ w ∧ w ≤ 1 ∧ ¬ jr = 0 by omega), if_pos (show 0 ≤ w ∧ w ≤ 1 ∧ z 1 = 1 by omega), if_neg (show ¬ (0 ≤ w ∧ w ≤ 1 ∧ ¬ jr = 0 ∧ w = 0) by omega), if_neg (show ¬ ¬ z 1 = 1 by omega), k2]
    exact ⟨by first | rfl | trivial, Rel_ok h (by omega) (by omega) (by omega) (k1.le (by omega))⟩
theorem L_undo (h : Rel B un svd sg le hv sv jb jr lf jf rd vr G z pa sl msv pd pm ty) (hB : B ≤ 100000000) : (if un < 1 then -5 else un - 1) = (if pm = 0 then -5 else pm - 1) ∧ Rel (B + 100) (if un < 1 then un else un - 1) svd sg le hv sv (if un < 1 then jb else (hv (un - 1)).1 0) (if un < 1 then jr else (hv (un - 1)).1 1) (if un < 1 then lf else (hv (un - 1)).1 2) (if un < 1 then jf else (hv (un - 1)).1 3) (if un < 1 then rd else (hv (un - 1)).1 4) (if un < 1 then vr else (hv (un - 1)).1 5) (if un < 1 then G else sCp G (hv (un - 1)).2) (if pm = 0 then z else undoZ z pa pm) pa sl msv pd (if pm = 0 then pm else pm - 1) ty := by
  obtain ⟨hT, hH, hS, hP⟩ := h
  obtain ⟨rfl, u0, uH, uh⟩ := hH
  by_cases a : un < 1
  · simp only [if_pos a, if_pos (show un = 0 by omega)]
    exact ⟨by first | rfl | trivial, Rel.mono ⟨hT, ⟨rfl, u0, uH, uh⟩, hS, hP⟩ (by omega)⟩
  · simp only [if_neg a, if_neg (show ¬ un = 0 by omega)]
    refine ⟨by first | rfl | trivial, Rel.mono ⟨((uh (un - 1) (by omega) (by omega)).cp (G := G)).row (fun j c d => undoZ_at ⟨c, d⟩), ⟨rfl, by omega, uH, fun i c d => uh i c (by omega)⟩, hS, hP⟩ (by omega)⟩
theorem L_save (h : Rel B un svd sg le hv sv jb jr lf jf rd vr G z pa sl msv pd pm ty) (hB : B ≤ 100000000) : (if 0 ≤ sn ∧ sn ≤ 1 then sCT G else -2) = (if 0 ≤ sn ∧ sn ≤ 1 then mWholes z else -2) ∧ Rel (B + 100) un (if 0 ≤ sn ∧ sn ≤ 1 then iU svd sn 1 else svd) sg le hv (if 0 ≤ sn ∧ sn ≤ 1 then hU sv sn (cpS (sv sn) jb jr lf jf rd vr G) else sv) jb jr lf jf rd vr G z pa (if 0 ≤ sn ∧ sn ≤ 1 then saveS z sl sn else sl) (if 0 ≤ sn ∧ sn ≤ 1 then iU msv sn 1 else msv) pd pm ty := by
  by_cases a : 0 ≤ sn ∧ sn ≤ 1
  · simp only [if_pos a]
    refine ⟨q_wholes h.1.1, Rel.mono ⟨h.1, h.2.1, ⟨fun k c d => ?_, fun j => ?_, fun k c d => ?_⟩, h.2.2.2⟩ (by omega)⟩
    · by_cases e : k = sn
      · rw [e, hU_same, iU_same]
        exact ⟨(h.1.cp (G := (sv sn).2)).ok (by omega), Or.inr rfl⟩
      · rw [hU_ne e, iU_ne e]
        exact h.2.2.1.1 k c d
    · unfold iU
      split
      · exact Or.inr rfl
      · exact h.2.2.1.2.1 j
    · by_cases e : k = sn
      · rw [e, hU_same, iU_same, iU_same]
        refine ⟨rfl, fun _ => (h.1.cp (G := (sv sn).2)).row (fun j i i' => ?_)⟩
        show saveS z sl sn (sn * 367 + j) = z j
        rw [saveS_at, if_pos (by omega), show sn * 367 + j - sn * 367 = j by omega]
      · rw [hU_ne e, iU_ne e, iU_ne e]
        refine ⟨(h.2.2.1.2.2 k c d).1, fun q => ((h.2.2.1.2.2 k c d).2 q).row (fun j i i' => ?_)⟩
        show saveS z sl sn (k * 367 + j) = sl (k * 367 + j)
        rw [saveS_at, if_neg (by omega)]
  · simp only [if_neg a]
    exact ⟨by first | rfl | trivial, h.mono (by omega)⟩
theorem L_restore (h : Rel B un svd sg le hv sv jb jr lf jf rd vr G z pa sl msv pd pm ty) (hB : B ≤ 100000000) : (if ¬ (0 ≤ sn ∧ sn ≤ 1) then -2 else if svd sn = 0 then -5 else sCT (sCp G (sv sn).2)) = (if ¬ (0 ≤ sn ∧ sn ≤ 1) then -2 else if msv sn = 0 then -5 else mWholes (restZ z sl sn)) ∧ Rel (B + 100) (if 0 ≤ sn ∧ sn ≤ 1 ∧ ¬ svd sn = 0 then recU 0 un else un) svd sg le (if 0 ≤ sn ∧ sn ≤ 1 ∧ ¬ svd sn = 0 then recA 0 un (hU hv un (cpS (hv un) jb jr lf jf rd vr G)) else hv) sv (if 0 ≤ sn ∧ sn ≤ 1 ∧ ¬ svd sn = 0 then (sv sn).1 0 else jb) (if 0 ≤ sn ∧ sn ≤ 1 ∧ ¬ svd sn = 0 then (sv sn).1 1 else jr) (if 0 ≤ sn ∧ sn ≤ 1 ∧ ¬ svd sn = 0 then (sv sn).1 2 else lf) (if 0 ≤ sn ∧ sn ≤ 1 ∧ ¬ svd sn = 0 then (sv sn).1 3 else jf) (if 0 ≤ sn ∧ sn ≤ 1 ∧ ¬ svd sn = 0 then (sv sn).1 4 else rd) (if 0 ≤ sn ∧ sn ≤ 1 ∧ ¬ svd sn = 0 then (sv sn).1 5 else vr) (if 0 ≤ sn ∧ sn ≤ 1 ∧ ¬ svd sn = 0 then sCp G (sv sn).2 else G) (if 0 ≤ sn ∧ sn ≤ 1 ∧ ¬ msv sn = 0 then restZ z sl sn else z) (if 0 ≤ sn ∧ sn ≤ 1 ∧ ¬ msv sn = 0 then recP z pa pm else pa) sl msv pd (if 0 ≤ sn ∧ sn ≤ 1 ∧ ¬ msv sn = 0 then recM pm else pm) ty := by
  by_cases a : ¬ (0 ≤ sn ∧ sn ≤ 1)
  · simp only [if_pos a, if_neg (show ¬ (0 ≤ sn ∧ sn ≤ 1 ∧ ¬ svd sn = 0) by omega), if_neg (show ¬ (0 ≤ sn ∧ sn ≤ 1 ∧ ¬ msv sn = 0) by omega)]
    exact ⟨by first | rfl | trivial, h.mono (by omega)⟩
  obtain ⟨e, he⟩ := h.2.2.1.2.2 sn (by omega) (by omega)
  by_cases b : svd sn = 0
  · simp only [if_neg a, if_pos b, if_neg (show ¬ (0 ≤ sn ∧ sn ≤ 1 ∧ ¬ svd sn = 0) by omega), if_neg (show ¬ (0 ≤ sn ∧ sn ≤ 1 ∧ ¬ msv sn = 0) by omega), if_pos (show msv sn = 0 by omega)]
    exact ⟨by first | rfl | trivial, h.mono (by omega)⟩
  · have k1 := ((he b).cp (G := G)).row (z' := restZ z sl sn) (fun j c d => restZ_at ⟨c, d⟩)
    simp only [if_neg a, if_neg b, if_pos (show 0 ≤ sn ∧ sn ≤ 1 ∧ ¬ svd sn = 0 by omega), if_pos (show 0 ≤ sn ∧ sn ≤ 1 ∧ ¬ msv sn = 0 by omega), if_neg (show ¬ msv sn = 0 by omega)]
    exact ⟨q_wholes k1.1, Rel_ok (x := 0) h (by omega) (by omega) (by omega) (k1.le (by omega))⟩
theorem L_wipe (h : Rel B un svd sg le hv sv jb jr lf jf rd vr G z pa sl msv pd pm ty) (hB : B ≤ 100000000) : (le) = (ty) ∧ Rel (B + 100) un svd sg 0 hv sv jb jr lf jf rd vr G z pa sl msv pd pm 0 := by
  exact ⟨h.2.2.2.2.1, Rel.mono ⟨h.1, h.2.1, h.2.2.1, ⟨h.2.2.2.1, rfl, by omega, fun j a b => absurd b (by omega)⟩⟩ (by omega)⟩
theorem L_fault (h : Rel B un svd sg le hv sv jb jr lf jf rd vr G z pa sl msv pd pm ty) (hB : B ≤ 100000000) : (cF sg le) = ((rp pd ty od).1) ∧ Rel (B + 100) un svd sg le hv sv jb jr lf jf rd vr G z pa sl msv pd pm ty := by
  obtain ⟨hT, hH, hS, ⟨rfl, rfl, p1, p2⟩⟩ := h
  exact ⟨cF_rp p1 od, Rel.mono ⟨hT, hH, hS, ⟨rfl, rfl, p1, p2⟩⟩ (by omega)⟩
theorem L_carryOut (h : Rel B un svd sg le hv sv jb jr lf jf rd vr G z pa sl msv pd pm ty) (hB : B ≤ 100000000) : (if cF sg le = -6 then (coC sg le le.toNat 0 0 (mkN jb jr lf jf rd vr G)).1 else -3) = (if (rp pd ty od).1 = -6 then (coR z (rp pd ty od).2.2.2 (rp pd ty od).2.2.1).2 else -3) ∧ Rel (B + 100) (if cF sg le = -6 then recU 0 un else un) svd sg (if cF sg le = -6 then 0 else le) (if cF sg le = -6 then recA 0 un (hU hv un (cpS (hv un) jb jr lf jf rd vr G)) else hv) sv (if cF sg le = -6 then (coC sg le le.toNat 0 0 (mkN jb jr lf jf rd vr G)).2.1 0 else jb) (if cF sg le = -6 then (coC sg le le.toNat 0 0 (mkN jb jr lf jf rd vr G)).2.1 1 else jr) (if cF sg le = -6 then (coC sg le le.toNat 0 0 (mkN jb jr lf jf rd vr G)).2.1 2 else lf) (if cF sg le = -6 then (coC sg le le.toNat 0 0 (mkN jb jr lf jf rd vr G)).2.1 3 else jf) (if cF sg le = -6 then (coC sg le le.toNat 0 0 (mkN jb jr lf jf rd vr G)).2.1 4 else rd) (if cF sg le = -6 then (coC sg le le.toNat 0 0 (mkN jb jr lf jf rd vr G)).2.1 5 else vr) (if cF sg le = -6 then (coC sg le le.toNat 0 0 (mkN jb jr lf jf rd vr G)).2.2 else G) (if (rp pd ty od).1 = -6 then (coR z (rp pd ty od).2.2.2 (rp pd ty od).2.2.1).1 else z) (if (rp pd ty od).1 = -6 then recP z pa pm else pa) sl msv pd (if (rp pd ty od).1 = -6 then recM pm else pm) (if (rp pd ty od).1 = -6 then 0 else ty) := by
  obtain ⟨hT, hH, hS, ⟨rfl, rfl, p1, p2⟩⟩ := h
  have h : Rel B un svd sg le hv sv jb jr lf jf rd vr G z pa sl msv sg pm le := ⟨hT, hH, hS, ⟨rfl, rfl, p1, p2⟩⟩
  have e := cF_rp (sg := sg) p1 od
  by_cases c : cF sg le = -6
  · have c4 : (rp sg le od).1 = -6 := by omega
    obtain ⟨k1, k2⟩ := carry_sim p1 od c4 hT (by omega)
    simp only [if_pos c, if_pos c4]
    have k3 := Rel_ok (x := 0) h (by omega) (by omega) (show B ≤ B + 100 by omega) (k2.eta.le (by omega))
    exact ⟨k1, k3.1, k3.2.1, k3.2.2.1, ⟨rfl, rfl, by omega, fun j a b => absurd b (by omega)⟩⟩
  · have c4 : ¬ (rp sg le od).1 = -6 := by omega
    simp only [if_neg c, if_neg c4]
    exact ⟨by first | rfl | trivial, h.mono (by omega)⟩
theorem L_put (h : Rel B un svd sg le hv sv jb jr lf jf rd vr G z pa sl msv pd pm ty) (hB : B ≤ 100000000) (hcu : 0 ≤ cu ∧ cu < 18446744073709551616) : (if nC 8 cu 0 < 1 then -2 else if 80 < le + nC 8 cu 0 then -4 else le + nC 8 cu 0) = (if (nP cu).1 = 0 ∨ (nP cu).2 = 0 then -2 else if 80 < ty + (nP cu).1 then -4 else ty + (nP cu).1) ∧ Rel (B + 100) un svd (if 1 ≤ nC 8 cu 0 ∧ le + nC 8 cu 0 ≤ 80 then apS sg le cu (nC 8 cu 0) else sg) (if 1 ≤ nC 8 cu 0 ∧ le + nC 8 cu 0 ≤ 80 then le + nC 8 cu 0 else le) hv sv jb jr lf jf rd vr G z pa sl msv (if 1 ≤ (nP cu).1 ∧ (nP cu).2 = 1 ∧ ty + (nP cu).1 ≤ 80 then apS pd ty cu (nP cu).1 else pd) pm (if 1 ≤ (nP cu).1 ∧ (nP cu).2 = 1 ∧ ty + (nP cu).1 ≤ 80 then ty + (nP cu).1 else ty) := by
  obtain ⟨hT, hH, hS, ⟨rfl, rfl, p1, p2⟩⟩ := h
  have h : Rel B un svd sg le hv sv jb jr lf jf rd vr G z pa sl msv sg pm le := ⟨hT, hH, hS, ⟨rfl, rfl, p1, p2⟩⟩
  have h256 : (256 : Int) ^ 8 = 18446744073709551616 := by decide
  obtain ⟨e1, e2, e3⟩ := nC_pNm 8 cu 0 cu.toNat hcu.1 (by rw [h256]; exact hcu.2) (by omega) (by omega)
  have e1 : nC 8 cu 0 = if (nP cu).2 = 1 then (nP cu).1 else 0 := e1
  have e2 : (nP cu).2 = 0 ∨ (nP cu).2 = 1 := e2
  have e3 : 0 ≤ (nP cu).1 := e3
  by_cases g : (nP cu).2 = 1
  · rw [if_pos g] at e1
    by_cases a : (nP cu).1 = 0
    · simp only [if_pos (show nC 8 cu 0 < 1 by omega), if_pos (show (nP cu).1 = 0 ∨ (nP cu).2 = 0 from Or.inl a), if_neg (show ¬ (1 ≤ nC 8 cu 0 ∧ le + nC 8 cu 0 ≤ 80) by omega), if_neg (show ¬ (1 ≤ (nP cu).1 ∧ (nP cu).2 = 1 ∧ le + (nP cu).1 ≤ 80) by omega)]
      exact ⟨by first | rfl | trivial, h.mono (by omega)⟩
    by_cases b : 80 < le + (nP cu).1
    · simp only [if_neg (show ¬ nC 8 cu 0 < 1 by omega), if_pos (show 80 < le + nC 8 cu 0 by omega), if_neg (show ¬ ((nP cu).1 = 0 ∨ (nP cu).2 = 0) by omega), if_pos b, if_neg (show ¬ (1 ≤ nC 8 cu 0 ∧ le + nC 8 cu 0 ≤ 80) by omega), if_neg (show ¬ (1 ≤ (nP cu).1 ∧ (nP cu).2 = 1 ∧ le + (nP cu).1 ≤ 80) by omega)]
      exact ⟨by first | rfl | trivial, h.mono (by omega)⟩
    · simp only [if_neg (show ¬ nC 8 cu 0 < 1 by omega), if_neg (show ¬ 80 < le + nC 8 cu 0 by omega), if_neg (show ¬ ((nP cu).1 = 0 ∨ (nP cu).2 = 0) by omega), if_neg b, if_pos (show 1 ≤ nC 8 cu 0 ∧ le + nC 8 cu 0 ≤ 80 by omega), if_pos (show 1 ≤ (nP cu).1 ∧ (nP cu).2 = 1 ∧ le + (nP cu).1 ≤ 80 by omega)]
      rw [← e1]
      exact ⟨by first | rfl | trivial, Rel.mono ⟨hT, hH, hS, ⟨rfl, rfl, by omega, PD_apS p2 p1.1 hcu.1⟩⟩ (by omega)⟩
  · rw [if_neg g] at e1
    simp only [if_pos (show nC 8 cu 0 < 1 by omega), if_pos (show (nP cu).1 = 0 ∨ (nP cu).2 = 0 from Or.inr (by omega)), if_neg (show ¬ (1 ≤ nC 8 cu 0 ∧ le + nC 8 cu 0 ≤ 80) by omega), if_neg (show ¬ (1 ≤ (nP cu).1 ∧ (nP cu).2 = 1 ∧ le + (nP cu).1 ≤ 80) by omega)]
    exact ⟨by first | rfl | trivial, h.mono (by omega)⟩
end
