def wD (E : zE) (b n : Nat → Nat) (ar : Nat → Nat) (sa ha : Int → Nat → Nat) (un : Int) (svd sg : Int → Int) (le : Int) (hv sv : Int → zSt) (jb jr lf jf rd vr : Int) (G : Int → zGr) : va_W := wK4 E b n ar sa un svd ++ (wPd E (pq b) sg le ++ (wSt E n jb jr lf jf rd vr G ++ (wHs E ha hv ++ wSs E sa sv)))
def arI (ha : Int → Nat → Nat) (i : Int) : Nat → Nat := fun j => if (j : Int) < i then ha ((j : Int) + 1) 0 else ha (j : Int) 0
theorem arI_0 (ha : Int → Nat → Nat) : arI ha 0 = har ha := by
  funext j
  exact if_neg (by omega)
theorem arI_at {ha : Int → Nat → Nat} {i : Int} (h : 0 ≤ i) : arI ha i (i + 1).toNat = ha (i + 1) 0 := by
  have e : (((i + 1).toNat : Nat) : Int) = i + 1 := Int.toNat_of_nonneg (by omega)
  show (if (((i + 1).toNat : Nat) : Int) < i then _ else ha (((i + 1).toNat : Nat) : Int) 0) = _
  rw [e, if_neg (by omega)]
theorem arI_up {ha : Int → Nat → Nat} {i : Int} (h : 0 ≤ i) : va_up (arI ha i) i.toNat (ha (i + 1) 0) = arI ha (i + 1) := by
  funext j
  show (if j = i.toNat then ha (i + 1) 0 else (if (j : Int) < i then ha ((j : Int) + 1) 0 else ha (j : Int) 0)) = (if (j : Int) < i + 1 then ha ((j : Int) + 1) 0 else ha (j : Int) 0)
  by_cases e : j = i.toNat
  · rw [if_pos e, if_pos (by omega)]
    have e2 : (j : Int) = i := by omega
    rw [e2]
  · rw [if_neg e]
    by_cases e2 : (j : Int) < i
    · rw [if_pos e2, if_pos (by omega)]
    · rw [if_neg e2, if_neg (by omega)]
theorem arI_end {ha : Int → Nat → Nat} : va_up (arI ha 6) (6 : Int).toNat (ha 0 0) = har (rot ha) := by
  funext j
  have e6 : (6 : Int).toNat = 6 := rfl
  rw [e6]
  show (if j = 6 then ha 0 0 else (if (j : Int) < 6 then ha ((j : Int) + 1) 0 else ha (j : Int) 0)) = rot ha (j : Int) 0
  unfold rot
  by_cases e : j = 6
  · rw [if_pos e, if_pos (by omega)]
  · rw [if_neg e]
    by_cases e2 : (j : Int) < 6
    · rw [if_pos e2, if_neg (show ¬ (j : Int) = 6 by omega), if_pos (show 0 ≤ (j : Int) ∧ (j : Int) < 6 by omega)]
    · rw [if_neg e2, if_neg (show ¬ (j : Int) = 6 by omega), if_neg (show ¬ (0 ≤ (j : Int) ∧ (j : Int) < 6) by omega)]
section
variable {E : zE} {b n : Nat → Nat} {ar : Nat → Nat} {sa ha : Int → Nat → Nat} {un : Int} {svd sg : Int → Int} {le : Int} {hv sv : Int → zSt} {jb jr lf jf rd vr : Int} {G : Int → zGr}
theorem wD_mem {k : Int} (h : 0 ≤ k ∧ k ≤ 6) : ∃ (qk : Nat) (vs : List Value), (wD E b n ar sa ha un svd sg le hv sv jb jr lf jf rd vr G)[qk]? = some (ha k 0, .inr (2, vs)) := by
  have m1 : (ha k 0, (Sum.inr (2, [.ref (ha k 1), .int (iI ((hv k).1 0)), .int (iI ((hv k).1 1)), .int (iI ((hv k).1 2)), .int (iI ((hv k).1 3)), .int (iI ((hv k).1 4)), .int (iI ((hv k).1 5))]) : va_E)) ∈ wHs E ha hv := by
    unfold wHs
    refine List.mem_flatMap.mpr ⟨k, seven_mem h, ?_⟩
    exact List.mem_cons_self
  have m2 : (ha k 0, (Sum.inr (2, [.ref (ha k 1), .int (iI ((hv k).1 0)), .int (iI ((hv k).1 1)), .int (iI ((hv k).1 2)), .int (iI ((hv k).1 3)), .int (iI ((hv k).1 4)), .int (iI ((hv k).1 5))]) : va_E)) ∈ wD E b n ar sa ha un svd sg le hv sv jb jr lf jf rd vr G :=
    List.mem_append_right _ (List.mem_append_right _ (List.mem_append_right _ (List.mem_append_left _ m1)))
  obtain ⟨qk, hqk⟩ := List.getElem?_of_mem m2
  exact ⟨qk, _, hqk⟩
theorem rot_perm : (wHs E ha hv).Perm (wHs E (rot ha) (rot hv)) := by
  have e : wHs E (rot ha) (rot hv) = ([1, 2, 3, 4, 5, 6, 0] : List Int).flatMap (fun i => wV E (ha i) (hv i)) := rfl
  rw [e]
  refine List.Perm.flatMap_right _ ?_
  show ([0] ++ [1, 2, 3, 4, 5, 6] : List Int).Perm ([1, 2, 3, 4, 5, 6] ++ [0])
  exact List.perm_append_comm
theorem wD_rot : (wD E b n (har (rot ha)) sa ha un svd sg le hv sv jb jr lf jf rd vr G).Perm (wN E b n sa (rot ha) un svd sg le (rot hv) sv jb jr lf jf rd vr G) :=
  List.Perm.append_left _ (List.Perm.append_left _ (List.Perm.append_left _ (rot_perm.append_right _)))
end
section
variable {p : Program} {l : Launch} {e : Env} {R : Room} {s : State} {m : MethodId} {args : Array Value} {below : List Frame} {meth : Method} {c : Code} {H : Heap} {locs : List Loc} {cells slots : Nat} {Q : State → Prop}
variable {cc : ByteArray} {pc : Nat} {ls : Array Slot} {rest : List Value} {E : zE} {A : Nat → Prop} {H0 : Heap} {ws : va_W} {a : Nat}
theorem z_aast (hx : p.tables.exec = Jvm.exec) (hb : c.code = cc) (hK : va_K E.1 vwCl (zT E) s) (hP : va_P E.1 vwCl ws H) (hD : va_D A ws) (hS : va_S A H0 H locs) (q0 qk : Nat) {n v : Nat} {vs : List Value} {ar : Nat → Nat} (ha : ws[q0]? = some (a, .inl (E.2 4, n, .inr (.inr (.inr (.inr (fun j : Nat => some (ar j)))))))) (hv : ws[qk]? = some (v, .inr (2, vs))) {x : Int} (h0 : 0 ≤ x) (h1 : x < n) (h2 : x < 2147483648) (hdg : decode cc pc = .ok (.aastore, 1))
    (kk : ∀ (H1 : Heap) (locs1 : List Loc), va_P E.1 vwCl (ws.set q0 (a, .inl (E.2 4, n, .inr (.inr (.inr (.inr (fun j : Nat => some (va_up ar x.toNat v j)))))))) H1 → va_D A (ws.set q0 (a, .inl (E.2 4, n, .inr (.inr (.inr (.inr (fun j : Nat => some (va_up ar x.toNat v j)))))))) → va_S A H0 H1 locs1 → W p l e R s m args below meth c H1 locs1 cells slots Q (F0 m (pc + 1) ls rest)) : W p l e R s m args below meth c H locs cells slots Q (F0 m pc ls (.ref v :: .int (iI x) :: .ref a :: rest)) := by
  refine va_astq (r := (RX2, TX2, 7)) hx hb hK hP hD hS q0 4 qk 2 ha rfl hv rfl (iI_in h0 h1 h2) hdg (fun H1 locs1 hP hD hS => ?_)
  have e : va_up (fun j : Nat => some (ar j)) (iI x).toNatClampNeg (some v) = fun j : Nat => some (va_up ar x.toNat v j) := by
    funext j
    rw [iI_ix ⟨by omega, h2⟩]
    show (if j = x.toNat then some v else some (ar j)) = some (if j = x.toNat then v else ar j)
    split <;> rfl
  rw [e] at hP hD
  exact kk H1 locs1 hP hD hS
end
theorem ndX3_dropOldestState : yX3_dropOldestState.cls = RX3 ∧ yX3_dropOldestState.cls ≠ "java/lang/invoke/MethodHandle" ∧ yX3_dropOldestState.cls ≠ "java/lang/invoke/VarHandle" ∧ (parseMethodDescriptor yX3_dropOldestState.desc).map (fun d => d.parameters.length) = some 0 := by decide +kernel
set_option maxRecDepth 100000 in
set_option maxHeartbeats 400000 in
theorem c_X3_dropOldestState (l : Launch) (E : zE) (q : Nat → Nat) (nq : Nat → Nat) (sa ha : Int → Nat → Nat) (un : Int) (svd sg : Int → Int) (le : Int) (hv sv : Int → zSt) (jb jr lf jf rd vr : Int) (G : Int → zGr) : zFv l E yX3_dropOldestState wsX3_dropOldestState 0 0 [.ref (q 0)] (wN E q nq sa ha un svd sg le hv sv jb jr lf jf rd vr G) (wN E q nq sa (rot ha) un svd sg le (rot hv) sv jb jr lf jf rd vr G) := by
  refine zCv_of (cc := cX3_dropOldestState) (maxL := 3) (by decide) rfl (Nat.le_of_ble_eq_true rfl) ?_
  intro p e s m below meth c ls A hx hb hr hts hown hlocks hml hK hA hS hP hD hl
  have hown : s.vm.findClass RX3 = some m.cls := hown
  have hl : lv_has ls 3 [(0, .ref (q 0))] := hl
  have hinX3 : ∀ v ∈ u_ws RX3 TX3 6, v ∈ wsX3_dropOldestState := by decide +kernel
  have hf_16 := hts (.fieldLink RX3 16 "GenerationNames" "history" "[LGenerationNames$State;") (by decide +kernel)
  have hP : va_P E.1 vwCl (wD E q nq (har ha) sa ha un svd sg le hv sv jb jr lf jf rd vr G) s.heap := hP
  have hD : va_D A (wD E q nq (har ha) sa ha un svd sg le hv sv jb jr lf jf rd vr G) := hD
  refine lv_aload_n hx hb dX3_dropOldestState_0 rfl (lv_at hl 0 rfl) ?_
  refine va_get (D := E.1) (cl := vwCl) (ci := 3) (v := .ref (q 1)) (C := RX3) (T := TX3) (N := 6) hx hb hts hinX3 hown hK hP 0 rfl rfl 1 (by decide) hf_16 (fun _ h => h) rfl dX3_dropOldestState_1 ?_
  refine lv_iconst (v := iI 0) hx hb dX3_dropOldestState_4 (by decide) ?_
  refine z_aald (D := E.1) (cl := vwCl) (tys := zT E) (f := har ha) hx hb hK hP 1 4 rfl rfl (by omega) (by omega) (by omega) dX3_dropOldestState_5 ?_
  rw [har_at (by omega)]
  refine lv_astore_n (lv' := [(1, .ref (ha 0 0)), (0, .ref (q 0))]) hx hb dX3_dropOldestState_6 rfl hl (by decide) rfl (fun ls hl => ?_)
  refine lv_iconst (v := iI 0) hx hb dX3_dropOldestState_7 (by decide) ?_
  refine lv_istore_n (lv' := [(2, .int (iI 0)), (1, .ref (ha 0 0)), (0, .ref (q 0))]) hx hb dX3_dropOldestState_8 rfl hl (by decide) rfl (fun ls hl => ?_)
  have hloop : ∀ (n : Nat) (i1 : Int) (hmu : 6 - i1 = (n : Int)) (hi : 0 ≤ i1 ∧ i1 ≤ 6) (H : Heap) (locs : List Loc) (ls : Array Slot), va_P E.1 vwCl (wD E q nq (arI ha i1) sa ha un svd sg le hv sv jb jr lf jf rd vr G) H → va_D A (wD E q nq (arI ha i1) sa ha un svd sg le hv sv jb jr lf jf rd vr G) → va_S A s.heap H locs → lv_has ls 3 [(2, .int (iI i1)), (1, .ref (ha 0 0)), (0, .ref (q 0))] → W p l e (zR 0 0) s m ([.ref (q 0)] : List Value).toArray below meth c H locs 0 0 (MQ below (zQv E A (S := Unit) (fun _ => True) (fun _ => wN E q nq sa (rot ha) un svd sg le (rot hv) sv jb jr lf jf rd vr G)) ([.ref (q 0)] : List Value).toArray s 0 0 A) (F0 m 9 ls []) := by
    intro n
    induction n using Nat.strongRecOn with
    | ind n ih =>
      intro i1 hmu hi H locs ls hP hD hS hl
      refine lv_iload_n hx hb dX3_dropOldestState_9 rfl (lv_at hl 0 rfl) ?_
      refine lv_bipush (v := iI 6) hx hb dX3_dropOldestState_10 (by decide) ?_
      refine z_icmp_ge (tgt := 35) hx hb dX3_dropOldestState_12 (by decide) ⟨by omega, by omega⟩ ⟨by omega, by omega⟩ (fun c_12 => ?_) (fun c_12 => ?_)
      · have hi6 : i1 = 6 := by omega
        subst hi6
        refine lv_aload_n hx hb dX3_dropOldestState_35 rfl (lv_at hl 2 rfl) ?_
        refine va_get (D := E.1) (cl := vwCl) (ci := 3) (v := .ref (q 1)) (C := RX3) (T := TX3) (N := 6) hx hb hts hinX3 hown hK hP 0 rfl rfl 1 (by decide) hf_16 (fun _ h => h) rfl dX3_dropOldestState_36 ?_
        refine lv_bipush (v := iI 6) hx hb dX3_dropOldestState_39 (by decide) ?_
        refine lv_aload_n hx hb dX3_dropOldestState_41 rfl (lv_at hl 1 rfl) ?_
        obtain ⟨qk, vs, hqk⟩ := wD_mem (E := E) (b := q) (n := nq) (ar := arI ha 6) (sa := sa) (ha := ha) (un := un) (svd := svd) (sg := sg) (le := le) (hv := hv) (sv := sv) (jb := jb) (jr := jr) (lf := lf) (jf := jf) (rd := rd) (vr := vr) (G := G) (k := 0) (by omega)
        refine z_aast hx hb hK hP hD hS 1 qk (ar := arI ha 6) rfl hqk (by omega) (by omega) (by omega) dX3_dropOldestState_42 (fun H locs hP hD hS => ?_)
        rw [arI_end] at hP hD
        have hP : va_P E.1 vwCl (wD E q nq (har (rot ha)) sa ha un svd sg le hv sv jb jr lf jf rd vr G) H := hP
        have hD : va_D A (wD E q nq (har (rot ha)) sa ha un svd sg le hv sv jb jr lf jf rd vr G) := hD
        exact z_vret hx hb hr hlocks hK hS () trivial (zP_perm hP wD_rot) (zD_perm hD wD_rot) dX3_dropOldestState_43
      · refine lv_aload_n hx hb dX3_dropOldestState_15 rfl (lv_at hl 2 rfl) ?_
        refine va_get (D := E.1) (cl := vwCl) (ci := 3) (v := .ref (q 1)) (C := RX3) (T := TX3) (N := 6) hx hb hts hinX3 hown hK hP 0 rfl rfl 1 (by decide) hf_16 (fun _ h => h) rfl dX3_dropOldestState_16 ?_
        refine lv_iload_n hx hb dX3_dropOldestState_19 rfl (lv_at hl 0 rfl) ?_
        refine lv_aload_n hx hb dX3_dropOldestState_20 rfl (lv_at hl 2 rfl) ?_
        refine va_get (D := E.1) (cl := vwCl) (ci := 3) (v := .ref (q 1)) (C := RX3) (T := TX3) (N := 6) hx hb hts hinX3 hown hK hP 0 rfl rfl 1 (by decide) hf_16 (fun _ h => h) rfl dX3_dropOldestState_21 ?_
        refine lv_iload_n hx hb dX3_dropOldestState_24 rfl (lv_at hl 0 rfl) ?_
        refine lv_iconst (v := iI 1) hx hb dX3_dropOldestState_25 (by decide) ?_
        refine z_iadd hx hb dX3_dropOldestState_26 ?_
        refine z_aald (D := E.1) (cl := vwCl) (tys := zT E) (f := arI ha i1) hx hb hK hP 1 4 rfl rfl (by omega) (by omega) (by omega) dX3_dropOldestState_27 ?_
        rw [arI_at hi.1]
        obtain ⟨qk, vs, hqk⟩ := wD_mem (E := E) (b := q) (n := nq) (ar := arI ha i1) (sa := sa) (ha := ha) (un := un) (svd := svd) (sg := sg) (le := le) (hv := hv) (sv := sv) (jb := jb) (jr := jr) (lf := lf) (jf := jf) (rd := rd) (vr := vr) (G := G) (k := i1 + 1) (by omega)
        refine z_aast hx hb hK hP hD hS 1 qk (ar := arI ha i1) rfl hqk (by omega) (by omega) (by omega) dX3_dropOldestState_28 (fun H locs hP hD hS => ?_)
        rw [arI_up hi.1] at hP hD
        have hP : va_P E.1 vwCl (wD E q nq (arI ha (i1 + 1)) sa ha un svd sg le hv sv jb jr lf jf rd vr G) H := hP
        have hD : va_D A (wD E q nq (arI ha (i1 + 1)) sa ha un svd sg le hv sv jb jr lf jf rd vr G) := hD
        refine lv_iinc (v := iI (i1 + 1)) (lv' := [(2, .int (iI (i1 + 1))), (1, .ref (ha 0 0)), (0, .ref (q 0))]) hx hb dX3_dropOldestState_29 hl (k := 0) rfl (iI_add _ _) (by decide) rfl (fun ls hl => ?_)
        refine lv_goto (tgt := 9) hx hb dX3_dropOldestState_32 (by decide) ?_
        exact ih (6 - (i1 + 1)).toNat (by omega) (i1 + 1) (by omega) (by omega) _ _ ls hP hD hS (lv_sub hl [0, 1, 2] rfl)
  exact hloop 6 0 (by omega) (by omega) _ _ ls (by rw [arI_0]; exact hP) (by rw [arI_0]; exact hD) hS (lv_sub hl [0, 1, 2] rfl)
