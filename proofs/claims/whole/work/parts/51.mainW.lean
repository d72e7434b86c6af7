-- the main object's world
abbrev zSt : Type := (Int → Int) × (Int → zGr)
def mkN (jb jr lf jf rd vr : Int) (G : Int → zGr) : zSt := (fun j => if j = 0 then jb else if j = 1 then jr else if j = 2 then lf else if j = 3 then jf else if j = 4 then rd else vr, G)
def wV (E : zE) (q : Nat → Nat) (N : zSt) : va_W := wSt E q (N.1 0) (N.1 1) (N.1 2) (N.1 3) (N.1 4) (N.1 5) N.2
def hU (h : Int → zSt) (k : Int) (X : zSt) : Int → zSt := fun i => if i = k then X else h i
theorem hU_same (G : Int → zSt) (g : Int) (X : zSt) : hU G g X g = X := if_pos rfl
theorem hU_ne {G : Int → zSt} {g i : Int} {X : zSt} (h : i ≠ g) : hU G g X i = G i := if_neg h
def seven : List Int := [0, 1, 2, 3, 4, 5, 6]
def duo : List Int := [0, 1]
def pq (b : Nat → Nat) : Nat → Nat := fun j => b (4 + j)
def wK4 (E : zE) (b n : Nat → Nat) (ar : Nat → Nat) (sa : Int → Nat → Nat) (un : Int) (svd : Int → Int) : va_W := [(b 0, .inr (3, [.ref (n 0), .ref (b 1), .int (iI un), .ref (b 2), .ref (b 3), .ref (b 4)])), (b 1, .inl (E.2 4, 7, .inr (.inr (.inr (.inr (fun j : Nat => some (ar j))))))), (b 2, .inl (E.2 4, 2, .inr (.inr (.inr (.inr (fun j : Nat => some (sa (j : Int) 0))))))), (b 3, .inl (E.2 1, 2, .inl (fun j : Nat => iI (svd j))))]
def har (ha : Int → Nat → Nat) : Nat → Nat := fun j => ha (j : Int) 0
def wHs (E : zE) (ha : Int → Nat → Nat) (hv : Int → zSt) : va_W := seven.flatMap (fun i => wV E (ha i) (hv i))
def wSs (E : zE) (sa : Int → Nat → Nat) (sv : Int → zSt) : va_W := duo.flatMap (fun i => wV E (sa i) (sv i))
def wN (E : zE) (b n : Nat → Nat) (sa ha : Int → Nat → Nat) (un : Int) (svd sg : Int → Int) (le : Int) (hv sv : Int → zSt) (jb jr lf jf rd vr : Int) (G : Int → zGr) : va_W := wK4 E b n (har ha) sa un svd ++ (wPd E (pq b) sg le ++ (wSt E n jb jr lf jf rd vr G ++ (wHs E ha hv ++ wSs E sa sv)))
theorem seven_mem {g : Int} (h : 0 ≤ g ∧ g ≤ 6) : g ∈ seven := by
  unfold seven
  rcases (show g = 0 ∨ g = 1 ∨ g = 2 ∨ g = 3 ∨ g = 4 ∨ g = 5 ∨ g = 6 by omega) with rfl | rfl | rfl | rfl | rfl | rfl | rfl <;> simp
theorem duo_mem {g : Int} (h : 0 ≤ g ∧ g ≤ 1) : g ∈ duo := by
  unfold duo
  rcases (show g = 0 ∨ g = 1 by omega) with rfl | rfl <;> simp
theorem seven_nodup : seven.Nodup := by decide
theorem duo_nodup : duo.Nodup := by decide
theorem flat_congr {E : zE} {a : Int → Nat → Nat} {hv : Int → zSt} {g : Int} {X : zSt} : ∀ l : List Int, g ∉ l → l.flatMap (fun i => wV E (a i) (hU hv g X i)) = l.flatMap (fun i => wV E (a i) (hv i))
  | [], _ => rfl
  | c :: l, h => by
    rw [List.flatMap_cons, List.flatMap_cons, flat_congr l (fun q => h (List.mem_cons_of_mem _ q)), hU_ne (fun e => h (by rw [e]; exact List.mem_cons_self))]
theorem pull {E : zE} {a : Int → Nat → Nat} {hv : Int → zSt} {g : Int} {l : List Int} (h : g ∈ l) : (l.flatMap (fun i => wV E (a i) (hv i))).Perm (wV E (a g) (hv g) ++ (l.erase g).flatMap (fun i => wV E (a i) (hv i))) := (List.perm_cons_erase h).flatMap_right _
theorem pull_U {E : zE} {a : Int → Nat → Nat} {hv : Int → zSt} {g : Int} {X : zSt} {l : List Int} (h : g ∈ l) (hn : l.Nodup) : (l.flatMap (fun i => wV E (a i) (hU hv g X i))).Perm (wV E (a g) X ++ (l.erase g).flatMap (fun i => wV E (a i) (hv i))) := by
  have hp := pull (E := E) (a := a) (hv := hU hv g X) h
  rw [hU_same, flat_congr _ hn.not_mem_erase] at hp
  exact hp
theorem ss_perm {E : zE} {q q2 : Nat → Nat} {jb jr lf jf rd vr : Int} {G : Int → zGr} {jb2 jr2 lf2 jf2 rd2 vr2 : Int} {G2 : Int → zGr} : (wSt E q jb jr lf jf rd vr G ++ wSt E q2 jb2 jr2 lf2 jf2 rd2 vr2 G2).Perm (wSS E q q2 jb jr lf jf rd vr G jb2 jr2 lf2 jf2 rd2 vr2 G2) := by
  unfold wSt wSS
  rw [List.append_assoc]
  exact List.Perm.append_left _ (List.perm_append_comm_assoc _ _ _)
/-- T H S with one of H, or of S, taken out ahead of T or behind it -/
theorem out_HT {T H S h Hr : va_W} (p : H.Perm (h ++ Hr)) : (T ++ (H ++ S)).Perm ((h ++ T) ++ (Hr ++ S)) := by
  have p1 : (T ++ (H ++ S)).Perm (T ++ ((h ++ Hr) ++ S)) := List.Perm.append_left _ (p.append_right S)
  refine p1.trans ?_
  rw [List.append_assoc, List.append_assoc]
  exact List.perm_append_comm_assoc _ _ _
theorem out_TH {T H S h Hr : va_W} (p : H.Perm (h ++ Hr)) : (T ++ (H ++ S)).Perm ((T ++ h) ++ (Hr ++ S)) := by
  have p1 : (T ++ (H ++ S)).Perm (T ++ ((h ++ Hr) ++ S)) := List.Perm.append_left _ (p.append_right S)
  refine p1.trans ?_
  rw [List.append_assoc, List.append_assoc]
theorem out_ST {T H S h Sr : va_W} (p : S.Perm (h ++ Sr)) : (T ++ (H ++ S)).Perm ((h ++ T) ++ (H ++ Sr)) := by
  have p1 : (T ++ (H ++ S)).Perm (T ++ (h ++ (H ++ Sr))) := List.Perm.append_left _ ((p.append_left H).trans (List.perm_append_comm_assoc _ _ _))
  refine p1.trans ?_
  rw [List.append_assoc]
  exact List.perm_append_comm_assoc _ _ _
theorem out_TS {T H S h Sr : va_W} (p : S.Perm (h ++ Sr)) : (T ++ (H ++ S)).Perm ((T ++ h) ++ (H ++ Sr)) := by
  have p1 : (T ++ (H ++ S)).Perm (T ++ (h ++ (H ++ Sr))) := List.Perm.append_left _ ((p.append_left H).trans (List.perm_append_comm_assoc _ _ _))
  refine p1.trans ?_
  rw [List.append_assoc]
/-- one state copied into another: T is the state now; X what the other holds -/
def cpS (X : zSt) (jb jr lf jf rd vr : Int) (G : Int → zGr) : zSt := mkN jb jr lf jf rd vr (sCp X.2 G)
section
variable {p : Program} {l : Launch} {e : Env} {R : Room} {s : State} {m : MethodId} {args : Array Value} {below : List Frame} {meth : Method} {c : Code} {H : Heap} {locs : List Loc} {cells slots : Nat} {Q : State → Prop}
variable {cc : ByteArray} {pc : Nat} {ls : Array Slot} {rest : List Value} {E : zE} {A : Nat → Prop} {H0 : Heap}
/-- State.copyFrom, called on the cells of two states somewhere in the world -/
theorem z_cp {index nL : Nat} {own : String} {Ts : List Cond} {W1 W2 w0 wr : va_W} {q q2 : Nat → Nat} {jb jr lf jf rd vr : Int} {G : Int → zGr} {jb2 jr2 lf2 jf2 rd2 vr2 : Int} {G2 : Int → zGr} {st0 : List Value}
    (hx : p.tables.exec = Jvm.exec) (hb : c.code = cc) (hml : c.maxLocals = nL) (hown : s.vm.findClass own = some m.cls) (hts : ∀ v ∈ Ts, v.before args s = true) (hK : va_K E.1 vwCl (zT E) s) (hA : ∀ q : Nat, H0.size ≤ q → A q) (hls : ls.size = nL)
    (hP : va_P E.1 vwCl W1 H) (hD : va_D A W1) (hS : va_S A H0 H locs)
    (hG : GoodIn Ts (wsV own index RX2 yX2_copyFrom wsX2_copyFrom)) (hR : 3 ≤ R.frames ∧ 150 ≤ R.locals) (hj : jr2 = 0 ∨ jr2 = 1) (hl2 : lf2 = 0 ∨ lf2 = 1)
    (p1 : W1.Perm (w0 ++ (wSS E q q2 jb jr lf jf rd vr G jb2 jr2 lf2 jf2 rd2 vr2 G2 ++ wr))) (p2 : (w0 ++ (wSS E q q2 jb2 jr2 lf2 jf2 rd2 vr2 (sCp G G2) jb2 jr2 lf2 jf2 rd2 vr2 G2 ++ wr)).Perm W2)
    (hst : st0 = .ref (q2 0) :: .ref (q 0) :: rest) (hroom : (rest.map fun v => v.category).sum ≤ 8) (hdg : decode cc pc = .ok (.invokevirtual index, 3)) (hf : cells ≤ R.cells ∧ slots ≤ R.slots)
    (kk : ∀ (H1 : Heap) (locs1 : List Loc), va_P E.1 vwCl W2 H1 → va_D A W2 → va_S A H0 H1 locs1 → W p l e R s m args below meth c H1 locs1 cells slots Q (F0 m (pc + 3) ls rest)) :
    W p l e R s m args below meth c H locs cells slots Q (F0 m pc ls st0) :=
  z_callMv (w0 := w0) (wr := wr) (As := [.ref (q2 0)]) (ci := 2) (qk := 0) hx hb hml hown hts hK hA hls (zP_perm hP p1) (zD_perm hD p1) hS (c_X2_copyFrom l E q jb jr lf jf rd vr G jb2 jr2 lf2 jf2 rd2 vr2 G2 q2 hj hl2) hG rfl ndX2_copyFrom ⟨Nat.le_trans (Nat.le_of_ble_eq_true rfl) hR.1, Nat.le_trans (Nat.le_of_ble_eq_true rfl) hR.2⟩ rfl rfl rfl rfl hst hroom hdg hf (fun _ H1 locs1 _ h2 h3 h4 => kk H1 locs1 (zP_perm h2 p2) (zD_perm h3 p2) h4)
end
section
variable {E : zE} {b n : Nat → Nat} {sa ha : Int → Nat → Nat} {un : Int} {svd sg : Int → Int} {le : Int} {hv sv : Int → zSt} {jb jr lf jf rd vr : Int} {G : Int → zGr} {k : Int}
abbrev w6 (E : zE) (b n : Nat → Nat) (sa ha : Int → Nat → Nat) (un : Int) (svd sg : Int → Int) (le : Int) : va_W := wK4 E b n (har ha) sa un svd ++ wPd E (pq b) sg le
theorem wN6 : wN E b n sa ha un svd sg le hv sv jb jr lf jf rd vr G = w6 E b n sa ha un svd sg le ++ (wSt E n jb jr lf jf rd vr G ++ (wHs E ha hv ++ wSs E sa sv)) := by
  unfold wN
  rw [List.append_assoc]
/-- into the history -/
theorem cpH1 (h : 0 ≤ k ∧ k ≤ 6) : (wN E b n sa ha un svd sg le hv sv jb jr lf jf rd vr G).Perm (w6 E b n sa ha un svd sg le ++ (wSS E (ha k) n ((hv k).1 0) ((hv k).1 1) ((hv k).1 2) ((hv k).1 3) ((hv k).1 4) ((hv k).1 5) (hv k).2 jb jr lf jf rd vr G ++ ((seven.erase k).flatMap (fun i => wV E (ha i) (hv i)) ++ wSs E sa sv))) := by
  rw [wN6]
  exact List.Perm.append_left _ ((out_HT (pull (seven_mem h))).trans (List.Perm.append_right _ ss_perm))
theorem cpH2 (h : 0 ≤ k ∧ k ≤ 6) : (w6 E b n sa ha un svd sg le ++ (wSS E (ha k) n jb jr lf jf rd vr (sCp (hv k).2 G) jb jr lf jf rd vr G ++ ((seven.erase k).flatMap (fun i => wV E (ha i) (hv i)) ++ wSs E sa sv))).Perm (wN E b n sa ha un svd sg le (hU hv k (cpS (hv k) jb jr lf jf rd vr G)) sv jb jr lf jf rd vr G) := by
  rw [wN6]
  exact List.Perm.append_left _ ((out_HT (pull_U (X := cpS (hv k) jb jr lf jf rd vr G) (seven_mem h) seven_nodup)).trans (List.Perm.append_right _ (ss_perm (E := E) (q := ha k) (q2 := n) (jb := jb) (jr := jr) (lf := lf) (jf := jf) (rd := rd) (vr := vr) (G := sCp (hv k).2 G)))).symm
/-- out of the history -/
theorem cpU1 (h : 0 ≤ k ∧ k ≤ 6) : (wN E b n sa ha un svd sg le hv sv jb jr lf jf rd vr G).Perm (w6 E b n sa ha un svd sg le ++ (wSS E n (ha k) jb jr lf jf rd vr G ((hv k).1 0) ((hv k).1 1) ((hv k).1 2) ((hv k).1 3) ((hv k).1 4) ((hv k).1 5) (hv k).2 ++ ((seven.erase k).flatMap (fun i => wV E (ha i) (hv i)) ++ wSs E sa sv))) := by
  rw [wN6]
  exact List.Perm.append_left _ ((out_TH (pull (seven_mem h))).trans (List.Perm.append_right _ ss_perm))
theorem cpU2 (h : 0 ≤ k ∧ k ≤ 6) : (w6 E b n sa ha un svd sg le ++ (wSS E n (ha k) ((hv k).1 0) ((hv k).1 1) ((hv k).1 2) ((hv k).1 3) ((hv k).1 4) ((hv k).1 5) (sCp G (hv k).2) ((hv k).1 0) ((hv k).1 1) ((hv k).1 2) ((hv k).1 3) ((hv k).1 4) ((hv k).1 5) (hv k).2 ++ ((seven.erase k).flatMap (fun i => wV E (ha i) (hv i)) ++ wSs E sa sv))).Perm (wN E b n sa ha un svd sg le hv sv ((hv k).1 0) ((hv k).1 1) ((hv k).1 2) ((hv k).1 3) ((hv k).1 4) ((hv k).1 5) (sCp G (hv k).2)) := by
  rw [wN6]
  exact List.Perm.append_left _ ((out_TH (pull (seven_mem h))).trans (List.Perm.append_right _ ss_perm)).symm
/-- into a slot -/
theorem cpS1 (h : 0 ≤ k ∧ k ≤ 1) : (wN E b n sa ha un svd sg le hv sv jb jr lf jf rd vr G).Perm (w6 E b n sa ha un svd sg le ++ (wSS E (sa k) n ((sv k).1 0) ((sv k).1 1) ((sv k).1 2) ((sv k).1 3) ((sv k).1 4) ((sv k).1 5) (sv k).2 jb jr lf jf rd vr G ++ (wHs E ha hv ++ (duo.erase k).flatMap (fun i => wV E (sa i) (sv i))))) := by
  rw [wN6]
  exact List.Perm.append_left _ ((out_ST (pull (duo_mem h))).trans (List.Perm.append_right _ ss_perm))
theorem cpS2 (h : 0 ≤ k ∧ k ≤ 1) : (w6 E b n sa ha un svd sg le ++ (wSS E (sa k) n jb jr lf jf rd vr (sCp (sv k).2 G) jb jr lf jf rd vr G ++ (wHs E ha hv ++ (duo.erase k).flatMap (fun i => wV E (sa i) (sv i))))).Perm (wN E b n sa ha un svd sg le hv (hU sv k (cpS (sv k) jb jr lf jf rd vr G)) jb jr lf jf rd vr G) := by
  rw [wN6]
  exact List.Perm.append_left _ ((out_ST (pull_U (X := cpS (sv k) jb jr lf jf rd vr G) (duo_mem h) duo_nodup)).trans (List.Perm.append_right _ (ss_perm (E := E) (q := sa k) (q2 := n) (jb := jb) (jr := jr) (lf := lf) (jf := jf) (rd := rd) (vr := vr) (G := sCp (sv k).2 G)))).symm
/-- out of a slot -/
theorem cpR1 (h : 0 ≤ k ∧ k ≤ 1) : (wN E b n sa ha un svd sg le hv sv jb jr lf jf rd vr G).Perm (w6 E b n sa ha un svd sg le ++ (wSS E n (sa k) jb jr lf jf rd vr G ((sv k).1 0) ((sv k).1 1) ((sv k).1 2) ((sv k).1 3) ((sv k).1 4) ((sv k).1 5) (sv k).2 ++ (wHs E ha hv ++ (duo.erase k).flatMap (fun i => wV E (sa i) (sv i))))) := by
  rw [wN6]
  exact List.Perm.append_left _ ((out_TS (pull (duo_mem h))).trans (List.Perm.append_right _ ss_perm))
theorem cpR2 (h : 0 ≤ k ∧ k ≤ 1) : (w6 E b n sa ha un svd sg le ++ (wSS E n (sa k) ((sv k).1 0) ((sv k).1 1) ((sv k).1 2) ((sv k).1 3) ((sv k).1 4) ((sv k).1 5) (sCp G (sv k).2) ((sv k).1 0) ((sv k).1 1) ((sv k).1 2) ((sv k).1 3) ((sv k).1 4) ((sv k).1 5) (sv k).2 ++ (wHs E ha hv ++ (duo.erase k).flatMap (fun i => wV E (sa i) (sv i))))).Perm (wN E b n sa ha un svd sg le hv sv ((sv k).1 0) ((sv k).1 1) ((sv k).1 2) ((sv k).1 3) ((sv k).1 4) ((sv k).1 5) (sCp G (sv k).2)) := by
  rw [wN6]
  exact List.Perm.append_left _ ((out_TS (pull (duo_mem h))).trans (List.Perm.append_right _ ss_perm)).symm
end
