-- rows copied, shifted
theorem itr_cpb (d src : Int → Int) (b : Int) : ∀ (n : Nat) (j : Int), itr (fun k y => iU y (b + k) (src k)) d n j = if b ≤ j ∧ j < b + n then src (j - b) else d j
  | 0, j => (if_neg (by omega)).symm
  | n + 1, j => by
    show (if j = b + n then src n else itr (fun k y => iU y (b + k) (src k)) d n j) = _
    rw [itr_cpb d src b n j]
    by_cases e : j = b + n
    · rw [if_pos e, if_pos (by omega), show j - b = n by omega]
    · rw [if_neg e]
      by_cases e2 : b ≤ j ∧ j < b + n
      · rw [if_pos e2, if_pos (by omega)]
      · rw [if_neg e2, if_neg (by omega)]
theorem itr_cp0 (d src : Int → Int) : ∀ (n : Nat) (j : Int), itr (fun k y => iU y k (src k)) d n j = if 0 ≤ j ∧ j < n then src j else d j
  | 0, j => (if_neg (by omega)).symm
  | n + 1, j => by
    show (if j = n then src n else itr (fun k y => iU y k (src k)) d n j) = _
    rw [itr_cp0 d src n j]
    by_cases e : j = n
    · rw [if_pos e, if_pos (by omega), e]
    · rw [if_neg e]
      by_cases e2 : 0 ≤ j ∧ j < n
      · rw [if_pos e2, if_pos (by omega)]
      · rw [if_neg e2, if_neg (by omega)]
theorem itr_sh (pa : Int → Int) : ∀ (n : Nat) (j : Int), itr (fun k y => iU y k (y (k + 367))) pa n j = if 0 ≤ j ∧ j < n then pa (j + 367) else pa j
  | 0, j => (if_neg (by omega)).symm
  | n + 1, j => by
    show (if j = n then itr (fun k y => iU y k (y (k + 367))) pa n (n + 367) else itr (fun k y => iU y k (y (k + 367))) pa n j) = _
    rw [itr_sh pa n j, itr_sh pa n (n + 367)]
    by_cases e : j = n
    · rw [if_pos e, if_neg (by omega), if_pos (by omega), e]
    · rw [if_neg e]
      by_cases e2 : 0 ≤ j ∧ j < n
      · rw [if_pos e2, if_pos (by omega)]
      · rw [if_neg e2, if_neg (by omega)]
theorem n367 : (((367 : Int).toNat : Nat) : Int) = 367 := by omega
theorem n1835 : (((1835 : Int).toNat : Nat) : Int) = 1835 := by omega
theorem recP_old {z pa : Int → Int} {pm j : Int} (h : ¬ pm = 6) (hj : j < pm * 367) : recP z pa pm j = pa j := by
  unfold recP
  rw [if_neg h, if_neg h, itr_cpb, if_neg (by omega)]
theorem recP_new {z pa : Int → Int} {pm j : Int} (h : ¬ pm = 6) (hj : 0 ≤ j ∧ j < 367) : recP z pa pm (pm * 367 + j) = z j := by
  unfold recP
  rw [if_neg h, if_neg h, itr_cpb, n367, if_pos (by omega), show pm * 367 + j - pm * 367 = j by omega]
theorem recP_old6 {z pa : Int → Int} {j : Int} (h0 : 0 ≤ j) (hj : j < 1835) : recP z pa 6 j = pa (j + 367) := by
  unfold recP
  rw [if_pos rfl, if_pos rfl, itr_cpb, if_neg (by omega), itr_sh, n1835, if_pos ⟨h0, hj⟩]
theorem recP_new6 {z pa : Int → Int} {j : Int} (hj : 0 ≤ j ∧ j < 367) : recP z pa 6 (5 * 367 + j) = z j := by
  unfold recP
  rw [if_pos rfl, if_pos rfl, itr_cpb, n367, if_pos (by omega), show 5 * 367 + j - (6 - 1) * 367 = j by omega]
theorem undoZ_at {z pa : Int → Int} {pm j : Int} (hj : 0 ≤ j ∧ j < 367) : undoZ z pa pm j = pa ((pm - 1) * 367 + j) := by
  unfold undoZ
  rw [itr_cp0 z (fun k => pa ((pm - 1) * 367 + k)), n367, if_pos hj]
theorem restZ_at {z sl : Int → Int} {sn j : Int} (hj : 0 ≤ j ∧ j < 367) : restZ z sl sn j = sl (sn * 367 + j) := by
  unfold restZ
  rw [itr_cp0 z (fun k => sl (sn * 367 + k)), n367, if_pos hj]
theorem saveS_at {z sl : Int → Int} {sn j : Int} : saveS z sl sn j = if sn * 367 ≤ j ∧ j < sn * 367 + 367 then z (j - sn * 367) else sl j := by
  unfold saveS
  rw [itr_cpb, n367]
theorem copyR_at {d src : Int → Int} {j : Int} : copyR d src j = if 0 ≤ j ∧ j < 367 then src j else d j := by
  unfold copyR
  rw [itr_cp0, n367]
/-- the two histories -/
def RH (B un : Int) (hv : Int → zSt) (pa : Int → Int) (pm : Int) : Prop := un = pm ∧ (0 ≤ un ∧ un ≤ 6) ∧ okH hv ∧ ∀ i : Int, 0 ≤ i → i < un → RT B (hv i) (fun j => pa (i * 367 + j))
def RSl (B : Int) (svd : Int → Int) (sv : Int → zSt) (sl msv : Int → Int) : Prop := okS sv svd ∧ (∀ j : Int, msv j = 0 ∨ msv j = 1) ∧ ∀ k : Int, 0 ≤ k → k ≤ 1 → svd k = msv k ∧ (¬ svd k = 0 → RT B (sv k) (fun j => sl (k * 367 + j)))
def RP (sg : Int → Int) (le : Int) (pd : Int → Int) (ty : Int) : Prop := sg = pd ∧ le = ty ∧ (0 ≤ le ∧ le ≤ 80) ∧ PD sg le
def Rel (B : Int) (un : Int) (svd sg : Int → Int) (le : Int) (hv sv : Int → zSt) (jb jr lf jf rd vr : Int) (G : Int → zGr) (z pa sl msv pd : Int → Int) (pm ty : Int) : Prop := RT B (mkN jb jr lf jf rd vr G) z ∧ RH B un hv pa pm ∧ RSl B svd sv sl msv ∧ RP sg le pd ty
section
variable {B C un le jb jr lf jf rd vr pm ty x jb' jr' lf' jf' rd' vr' : Int} {svd sg z pa sl msv pd z' : Int → Int} {hv sv : Int → zSt} {G G' : Int → zGr}
theorem RH.mono (h : RH B un hv pa pm) (hB : B ≤ C) : RH C un hv pa pm := ⟨h.1, h.2.1, h.2.2.1, fun i a b => (h.2.2.2 i a b).le hB⟩
theorem RSl.mono (h : RSl B svd sv sl msv) (hB : B ≤ C) : RSl C svd sv sl msv := ⟨h.1, h.2.1, fun k a b => ⟨(h.2.2 k a b).1, fun q => ((h.2.2 k a b).2 q).le hB⟩⟩
theorem Rel.mono (h : Rel B un svd sg le hv sv jb jr lf jf rd vr G z pa sl msv pd pm ty) (hB : B ≤ C) : Rel C un svd sg le hv sv jb jr lf jf rd vr G z pa sl msv pd pm ty := ⟨h.1.le hB, h.2.1.mono hB, h.2.2.1.mono hB, h.2.2.2⟩
theorem okH_U {X : zSt} (h : okH hv) (hX : okN X) : okH (hU hv un X) := by
  intro k a b
  by_cases e : k = un
  · rw [e, hU_same]; exact hX
  · rw [hU_ne e]; exact h k a b
theorem okH_rot (h : okH hv) : okH (rot hv) := by
  intro k a b
  unfold rot
  by_cases e : k = 6
  · rw [if_pos e]; exact h 0 (by omega) (by omega)
  · rw [if_neg e, if_pos (by omega)]; exact h (k + 1) (by omega) (by omega)
theorem rec_ok (h : RH B un hv pa pm) (hN : RT B (mkN jb jr lf jf rd vr G) z) (hB : B ≤ 1900000000) (hx : ¬ (x < 0 ∧ ¬ x = -6)) : RH B (recU x un) (recA x un (hU hv un (cpS (hv un) jb jr lf jf rd vr G))) (recP z pa pm) (recM pm) := by
  obtain ⟨rfl, h0, hH, hh⟩ := h
  have hc : RT B (cpS (hv un) jb jr lf jf rd vr G) z := hN.cp (G := (hv un).2)
  have hU1 := okH_U (un := un) hH (hc.ok hB)
  unfold recU recM
  rw [if_neg hx]
  by_cases h6 : un < 6
  · have eA : recA x un (hU hv un (cpS (hv un) jb jr lf jf rd vr G)) = hU hv un (cpS (hv un) jb jr lf jf rd vr G) := if_pos (Or.inr h6)
    rw [if_pos h6, if_neg (show ¬ un = 6 by omega), eA]
    refine ⟨rfl, by omega, hU1, fun i a b => ?_⟩
    by_cases e : i = un
    · rw [e, hU_same]
      exact hc.row (fun j c d => recP_new (by omega) ⟨c, d⟩)
    · rw [hU_ne e]
      exact (hh i a (by omega)).row (fun j c d => recP_old (by omega) (by omega))
  · obtain rfl : un = 6 := by omega
    have eA : recA x 6 (hU hv 6 (cpS (hv 6) jb jr lf jf rd vr G)) = rot (hU hv 6 (cpS (hv 6) jb jr lf jf rd vr G)) := if_neg (fun q => q.elim hx (fun q => absurd q (by omega)))
    rw [if_neg h6, if_pos rfl, eA]
    refine ⟨by omega, by omega, okH_rot hU1, fun i a b => ?_⟩
    have er1 : rot (hU hv 6 (cpS (hv 6) jb jr lf jf rd vr G)) i = hU hv 6 (cpS (hv 6) jb jr lf jf rd vr G) (i + 1) := by
      unfold rot
      rw [if_neg (by omega), if_pos (by omega)]
    rw [er1]
    by_cases e : i = 5
    · subst e
      rw [show (5 : Int) + 1 = 6 by omega, hU_same]
      exact hc.row (fun j c d => recP_new6 ⟨c, d⟩)
    · rw [hU_ne (by omega)]
      refine (hh (i + 1) (by omega) (by omega)).row (fun j c d => ?_)
      show recP z pa 6 (i * 367 + j) = pa ((i + 1) * 367 + j)
      rw [recP_old6 (by omega) (by omega), show i * 367 + j + 367 = (i + 1) * 367 + j by omega]
theorem rec_er (h : RH B un hv pa pm) (hN : RT B (mkN jb jr lf jf rd vr G) z) (hB : B ≤ 1900000000) (hx : x < 0 ∧ ¬ x = -6) : RH B (recU x un) (recA x un (hU hv un (cpS (hv un) jb jr lf jf rd vr G))) pa pm := by
  obtain ⟨rfl, h0, hH, hh⟩ := h
  have hc : RT B (cpS (hv un) jb jr lf jf rd vr G) z := hN.cp (G := (hv un).2)
  have eA : recA x un (hU hv un (cpS (hv un) jb jr lf jf rd vr G)) = hU hv un (cpS (hv un) jb jr lf jf rd vr G) := if_pos (Or.inl hx)
  have eU : recU x un = un := if_pos hx
  rw [eA, eU]
  refine ⟨rfl, h0, okH_U hH (hc.ok hB), fun i a b => ?_⟩
  rw [hU_ne (by omega)]
  exact hh i a b
theorem Rel_ok (h : Rel B un svd sg le hv sv jb jr lf jf rd vr G z pa sl msv pd pm ty) (hB : B ≤ 1900000000) (hx : ¬ (x < 0 ∧ ¬ x = -6)) (hC : B ≤ C) (hR : RT C (mkN jb' jr' lf' jf' rd' vr' G') z') : Rel C (recU x un) svd sg le (recA x un (hU hv un (cpS (hv un) jb jr lf jf rd vr G))) sv jb' jr' lf' jf' rd' vr' G' z' (recP z pa pm) sl msv pd (recM pm) ty :=
  ⟨hR, (rec_ok h.2.1 h.1 hB hx).mono hC, h.2.2.1.mono hC, h.2.2.2⟩
theorem Rel_er (h : Rel B un svd sg le hv sv jb jr lf jf rd vr G z pa sl msv pd pm ty) (hB : B ≤ 1900000000) (hx : x < 0 ∧ ¬ x = -6) (hC : B ≤ C) : Rel C (recU x un) svd sg le (recA x un (hU hv un (cpS (hv un) jb jr lf jf rd vr G))) sv jb jr lf jf rd vr G z pa sl msv pd pm ty :=
  ⟨h.1.le hC, (rec_er h.2.1 h.1 hB hx).mono hC, h.2.2.1.mono hC, h.2.2.2⟩
end
