-- two states, one copied into the other
def wSS (E : zE) (q q2 : Nat → Nat) (jb jr lf jf rd vr : Int) (G : Int → zGr) (jb2 jr2 lf2 jf2 rd2 vr2 : Int) (G2 : Int → zGr) : va_W := wS2 E q jb jr lf jf rd vr ++ (wS2 E q2 jb2 jr2 lf2 jf2 rd2 vr2 ++ (six.flatMap (fun i => wX E (gq q i) (G i)) ++ six.flatMap (fun i => wX E (gq q2 i) (G2 i))))
def wFF (E : zE) (q q2 : Nat → Nat) (g : Int) (R : va_W) (jb jr lf jf rd vr jb2 jr2 lf2 jf2 rd2 vr2 : Int) (ke ne si ro de nj mj : Int) (da re jo : Int → Int) (ke2 ne2 si2 ro2 de2 nj2 mj2 : Int) (da2 re2 jo2 : Int → Int) : va_W := wS2 E q jb jr lf jf rd vr ++ (wS2 E q2 jb2 jr2 lf2 jf2 rd2 vr2 ++ (wGG E (gq q g) (gq q2 g) ke ne si ro de nj mj da re jo ke2 ne2 si2 ro2 de2 nj2 mj2 da2 re2 jo2 ++ R))
section
variable {E : zE} {q q2 : Nat → Nat} {jb jr lf jf rd vr jb2 jr2 lf2 jf2 rd2 vr2 : Int} {G G2 : Int → zGr} {g : Int}
theorem wSS_perm (h : 0 ≤ g ∧ g ≤ 5) : (wSS E q q2 jb jr lf jf rd vr G jb2 jr2 lf2 jf2 rd2 vr2 G2).Perm (wFF E q q2 g (wR E q G g ++ wR E q2 G2 g) jb jr lf jf rd vr jb2 jr2 lf2 jf2 rd2 vr2 (G g 0 0) (G g 0 1) (G g 0 2) (G g 0 3) (G g 0 4) (G g 0 5) (G g 0 6) (G g 1) (G g 2) (G g 3) (G2 g 0 0) (G2 g 0 1) (G2 g 0 2) (G2 g 0 3) (G2 g 0 4) (G2 g 0 5) (G2 g 0 6) (G2 g 1) (G2 g 2) (G2 g 3)) := by
  unfold wSS wFF
  refine List.Perm.append_left _ (List.Perm.append_left _ ?_)
  have h1 : (six.flatMap (fun i => wX E (gq q i) (G i))).Perm (wX E (gq q g) (G g) ++ wR E q G g) := (List.perm_cons_erase (six_mem h)).flatMap_right _
  have h2 : (six.flatMap (fun i => wX E (gq q2 i) (G2 i))).Perm (wX E (gq q2 g) (G2 g) ++ wR E q2 G2 g) := (List.perm_cons_erase (six_mem h)).flatMap_right _
  refine (h1.append h2).trans ?_
  show (wX E (gq q g) (G g) ++ wR E q G g ++ (wX E (gq q2 g) (G2 g) ++ wR E q2 G2 g)).Perm ((wX E (gq q g) (G g) ++ wX E (gq q2 g) (G2 g)) ++ (wR E q G g ++ wR E q2 G2 g))
  rw [List.append_assoc, List.append_assoc]
  exact List.Perm.append_left _ (List.perm_append_comm_assoc _ _ _)
theorem wFF_perm {ke ne si ro de nj mj : Int} {da re jo : Int → Int} (h : 0 ≤ g ∧ g ≤ 5) : (wFF E q q2 g (wR E q G g ++ wR E q2 G2 g) jb jr lf jf rd vr jb2 jr2 lf2 jf2 rd2 vr2 ke ne si ro de nj mj da re jo (G2 g 0 0) (G2 g 0 1) (G2 g 0 2) (G2 g 0 3) (G2 g 0 4) (G2 g 0 5) (G2 g 0 6) (G2 g 1) (G2 g 2) (G2 g 3)).Perm (wSS E q q2 jb jr lf jf rd vr (gU G g (mkG ke ne si ro de nj mj da re jo)) jb2 jr2 lf2 jf2 rd2 vr2 G2) := by
  have hp := wSS_perm (E := E) (q := q) (q2 := q2) (jb := jb) (jr := jr) (lf := lf) (jf := jf) (rd := rd) (vr := vr) (jb2 := jb2) (jr2 := jr2) (lf2 := lf2) (jf2 := jf2) (rd2 := rd2) (vr2 := vr2) (G := gU G g (mkG ke ne si ro de nj mj da re jo)) (G2 := G2) h
  rw [wR_congr, gU_same] at hp
  exact hp.symm
end
def sCp (G G2 : Int → zGr) : Int → zGr := itr (fun g Y => gU Y g (xCp (Y g) (G2 g))) G 6
