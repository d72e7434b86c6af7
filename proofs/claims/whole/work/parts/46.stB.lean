theorem ndX2_countHoles : yX2_countHoles.cls = RX2 ∧ yX2_countHoles.cls ≠ "java/lang/invoke/MethodHandle" ∧ yX2_countHoles.cls ≠ "java/lang/invoke/VarHandle" ∧ (parseMethodDescriptor yX2_countHoles.desc).map (fun d => d.parameters.length) = some 0 := by decide +kernel
set_option maxRecDepth 100000 in
set_option maxHeartbeats 1000000 in
theorem c_X2_countHoles (l : Launch) (E : zE) (q : Nat → Nat) (jb jr lf jf rd vr : Int) (G : Int → zGr) (h0 : SI G) : zF l E yX2_countHoles wsX2_countHoles 2 43 [.ref (q 0)] (wSt E q jb jr lf jf rd vr G) (sCH G) (wSt E q jb jr lf jf rd vr G) := by
  have hsi := h0
  refine zC_of (cc := cX2_countHoles) (maxL := 3) (by decide) rfl (Nat.le_of_ble_eq_true rfl) ?_
  intro p e s m below meth c ls A hx hb hr hts hown hlocks hml hK hA hS hP hD hl
  have hown : s.vm.findClass RX2 = some m.cls := hown
  have hl : lv_has ls 3 [(0, .ref (q 0))] := hl
  have hinX2 : ∀ v ∈ u_ws RX2 TX2 7, v ∈ wsX2_countHoles := by decide +kernel
  have hf_11 := hts (.fieldLink RX2 11 "GenerationNames$State" "groups" "[LGenerationNames$Group;") (by decide +kernel)
  refine lv_iconst (v := iI 0) hx hb dX2_countHoles_0 (by decide) ?_
  refine lv_istore_n (lv' := [(1, .int (iI 0)), (0, .ref (q 0))]) hx hb dX2_countHoles_1 rfl hl (by decide) rfl (fun ls hl => ?_)
  refine lv_iconst (v := iI 0) hx hb dX2_countHoles_2 (by decide) ?_
  refine lv_istore_n (lv' := [(2, .int (iI 0)), (1, .int (iI 0)), (0, .ref (q 0))]) hx hb dX2_countHoles_3 rfl hl (by decide) rfl (fun ls hl => ?_)
  have hloop4 : ∀ (n : Nat) (n1 : Int) (i1 : Int) (hmu : 6 - i1 = (n : Int)) (hi4_0 : n1 = itr (fun g n => n + cHo (G g 0 1) (G g 0 2) (G g 1)) 0 (i1).toNat) (hi4_1 : 0 ≤ i1 ∧ i1 ≤ 6) (H : Heap) (locs : List Loc) (ls : Array Slot), va_P E.1 vwCl (wSt E q jb jr lf jf rd vr G) H → va_D A (wSt E q jb jr lf jf rd vr G) → va_S A s.heap H locs → lv_has ls 3 [(2, .int (iI i1)), (1, .int (iI n1)), (0, .ref (q 0))] → W p l e (zR 2 43) s m ([.ref (q 0)] : List Value).toArray below meth c H locs 0 0 (MQ below (zQ E A (S := Unit) (fun x _ => x = (sCH G)) (fun _ => wSt E q jb jr lf jf rd vr G)) ([.ref (q 0)] : List Value).toArray s 0 0 A) (F0 m 4 ls []) := by
    intro n
    induction n using Nat.strongRecOn with
    | ind n ih4 =>
      intro n1 i1 hmu4 hi4_0 hi4_1 H locs ls hP hD hS hl
      refine lv_iload_n hx hb dX2_countHoles_4 rfl (lv_at hl 0 rfl) ?_
      refine lv_bipush (v := iI 6) hx hb dX2_countHoles_5 (by decide) ?_
      refine z_icmp_ge (tgt := 28) hx hb dX2_countHoles_7 (by decide) ⟨by omega, by omega⟩ ⟨by omega, by omega⟩ (fun c_7 => ?_) (fun c_7 => ?_)
      · refine lv_iload_n hx hb dX2_countHoles_28 rfl (lv_at hl 1 rfl) ?_
        exact z_iret hx hb hr hlocks hK hS () (by rw [hi4_0, show i1 = 6 by omega]; rfl) hP hD dX2_countHoles_29
      · refine lv_iload_n hx hb dX2_countHoles_10 rfl (lv_at hl 1 rfl) ?_
        refine lv_aload_n hx hb dX2_countHoles_11 rfl (lv_at hl 2 rfl) ?_
        refine va_get (D := E.1) (cl := vwCl) (ci := 2) (v := .ref (q 1)) (C := RX2) (T := TX2) (N := 7) hx hb hts hinX2 hown hK hP 0 rfl rfl 0 (by decide) hf_11 (fun _ h => h) rfl dX2_countHoles_12 ?_
        refine lv_iload_n hx hb dX2_countHoles_15 rfl (lv_at hl 0 rfl) ?_
        refine z_aald (D := E.1) (cl := vwCl) (tys := zT E) (f := fun j : Nat => q (2 + 4 * j)) hx hb hK hP 1 3 rfl rfl (by omega) (by omega) (by omega) dX2_countHoles_16 ?_
        refine W.eq (g2 := F0 m 17 ls [.ref (gq q i1 0), .int (iI n1)]) rfl ?_
        have hP := zP_perm hP (wS_perm (g := i1) (by omega))
        have hD := zD_perm hD (wS_perm (g := i1) (by omega))
        obtain ⟨hx1, hx2, hx3, hx4, hx5, hx6⟩ := hsi i1 (by omega) (by omega)
        have hP : va_P E.1 vwCl (wF E q i1 (wR E q G i1) jb jr lf jf rd vr (G i1 0 0) (G i1 0 1) (G i1 0 2) (G i1 0 3) (G i1 0 4) (G i1 0 5) (G i1 0 6) (G i1 1) (G i1 2) (G i1 3)) H := hP
        have hD : va_D A (wF E q i1 (wR E q G i1) jb jr lf jf rd vr (G i1 0 0) (G i1 0 1) (G i1 0 2) (G i1 0 3) (G i1 0 4) (G i1 0 5) (G i1 0 6) (G i1 1) (G i1 2) (G i1 3)) := hD
        refine z_callM (w0 := wS2 E q jb jr lf jf rd vr) (ci := 0) (qk := 0) (As := []) (rest := [.int (iI n1)]) hx hb hml hown hts hK hA hl.1 hP hD hS (c_X0_countHoles l E (gq q i1) (G i1 1) (G i1 2) (G i1 3) (G i1 0 0) (G i1 0 1) (G i1 0 2) (G i1 0 3) (G i1 0 4) (G i1 0 5) (G i1 0 6)   (by first | omega | exact hx3 | exact hx3 _ (by omega) (by omega) | exact ⟨by omega, by omega⟩) (by first | omega | exact hx3 | exact hx3 _ (by omega) (by omega) | exact ⟨by omega, by omega⟩) (by first | omega | exact hx3 | exact hx3 _ (by omega) (by omega) | exact ⟨by omega, by omega⟩)) gX2_countHoles_X0_countHoles rfl ndX0_countHoles ⟨Nat.le_of_ble_eq_true rfl, Nat.le_of_ble_eq_true rfl⟩ rfl rfl rfl rfl rfl (Nat.le_of_ble_eq_true rfl) dX2_countHoles_17 ⟨Nat.le_of_ble_eq_true rfl, Nat.le_of_ble_eq_true rfl⟩ (fun x u H locs hpost hP hD hS => ?_)
        subst hpost
        have hP : va_P E.1 vwCl (wF E q i1 (wR E q G i1) jb jr lf jf rd vr (G i1 0 0) (G i1 0 1) (G i1 0 2) (G i1 0 3) (G i1 0 4) (G i1 0 5) (G i1 0 6) (G i1 1) (G i1 2) (G i1 3)) H := hP
        have hD : va_D A (wF E q i1 (wR E q G i1) jb jr lf jf rd vr (G i1 0 0) (G i1 0 1) (G i1 0 2) (G i1 0 3) (G i1 0 4) (G i1 0 5) (G i1 0 6) (G i1 1) (G i1 2) (G i1 3)) := hD
        refine z_iadd hx hb dX2_countHoles_20 ?_
        refine lv_istore_n (lv' := [(1, .int (iI (n1 + (cHo (G i1 0 1) (G i1 0 2) (G i1 1))))), (2, .int (iI i1)), (0, .ref (q 0))]) hx hb dX2_countHoles_21 rfl hl (by decide) rfl (fun ls hl => ?_)
        refine lv_iinc (v := iI (i1 + 1)) (lv' := [(2, .int (iI (i1 + 1))), (1, .int (iI (n1 + (cHo (G i1 0 1) (G i1 0 2) (G i1 1))))), (0, .ref (q 0))]) hx hb dX2_countHoles_22 hl (k := 1) rfl (iI_add _ _) (by decide) rfl (fun ls hl => ?_)
        refine lv_goto (tgt := 4) hx hb dX2_countHoles_25 (by decide) ?_
        have hP : va_P E.1 vwCl (wSt E q jb jr lf jf rd vr G) H := zP_perm hP (wS_perm (g := i1) (by omega)).symm
        have hD : va_D A (wSt E q jb jr lf jf rd vr G) := zD_perm hD (wS_perm (g := i1) (by omega)).symm
        exact ih4 (6 - (i1 + 1) : Int).toNat (by omega) (n1 + (cHo (G i1 0 1) (G i1 0 2) (G i1 1))) (i1 + 1) (by omega) (by rw [itr_step (by omega), ← hi4_0]) (by omega) _ _ ls hP hD hS (lv_sub hl [0, 1, 2] rfl)
  exact hloop4 (6 - 0 : Int).toNat 0 0 (by omega) (rfl) (by omega) _ _ ls hP hD hS (lv_sub hl [0, 1, 2] rfl)

theorem ndX2_countThere : yX2_countThere.cls = RX2 ∧ yX2_countThere.cls ≠ "java/lang/invoke/MethodHandle" ∧ yX2_countThere.cls ≠ "java/lang/invoke/VarHandle" ∧ (parseMethodDescriptor yX2_countThere.desc).map (fun d => d.parameters.length) = some 0 := by decide +kernel
set_option maxRecDepth 100000 in
set_option maxHeartbeats 1000000 in
theorem c_X2_countThere (l : Launch) (E : zE) (q : Nat → Nat) (jb jr lf jf rd vr : Int) (G : Int → zGr) (h0 : SI G) : zF l E yX2_countThere wsX2_countThere 2 43 [.ref (q 0)] (wSt E q jb jr lf jf rd vr G) (sCT G) (wSt E q jb jr lf jf rd vr G) := by
  have hsi := h0
  refine zC_of (cc := cX2_countThere) (maxL := 3) (by decide) rfl (Nat.le_of_ble_eq_true rfl) ?_
  intro p e s m below meth c ls A hx hb hr hts hown hlocks hml hK hA hS hP hD hl
  have hown : s.vm.findClass RX2 = some m.cls := hown
  have hl : lv_has ls 3 [(0, .ref (q 0))] := hl
  have hinX2 : ∀ v ∈ u_ws RX2 TX2 7, v ∈ wsX2_countThere := by decide +kernel
  have hinX0 : ∀ v ∈ u_ws RX0 TX0 10, v ∈ wsX2_countThere := by decide +kernel
  have hf_11 := hts (.fieldLink RX2 11 "GenerationNames$State" "groups" "[LGenerationNames$Group;") (by decide +kernel)
  have hf_100 := hts (.fieldLink RX2 100 "GenerationNames$Group" "size" "I") (by decide +kernel)
  refine lv_iconst (v := iI 0) hx hb dX2_countThere_0 (by decide) ?_
  refine lv_istore_n (lv' := [(1, .int (iI 0)), (0, .ref (q 0))]) hx hb dX2_countThere_1 rfl hl (by decide) rfl (fun ls hl => ?_)
  refine lv_iconst (v := iI 0) hx hb dX2_countThere_2 (by decide) ?_
  refine lv_istore_n (lv' := [(2, .int (iI 0)), (1, .int (iI 0)), (0, .ref (q 0))]) hx hb dX2_countThere_3 rfl hl (by decide) rfl (fun ls hl => ?_)
  have hloop4 : ∀ (n : Nat) (n1 : Int) (i1 : Int) (hmu : 6 - i1 = (n : Int)) (hi4_0 : n1 = itr (fun g n => n + (G g 0 2 - cHo (G g 0 1) (G g 0 2) (G g 1))) 0 (i1).toNat) (hi4_1 : 0 ≤ i1 ∧ i1 ≤ 6) (H : Heap) (locs : List Loc) (ls : Array Slot), va_P E.1 vwCl (wSt E q jb jr lf jf rd vr G) H → va_D A (wSt E q jb jr lf jf rd vr G) → va_S A s.heap H locs → lv_has ls 3 [(2, .int (iI i1)), (1, .int (iI n1)), (0, .ref (q 0))] → W p l e (zR 2 43) s m ([.ref (q 0)] : List Value).toArray below meth c H locs 0 0 (MQ below (zQ E A (S := Unit) (fun x _ => x = (sCT G)) (fun _ => wSt E q jb jr lf jf rd vr G)) ([.ref (q 0)] : List Value).toArray s 0 0 A) (F0 m 4 ls []) := by
    intro n
    induction n using Nat.strongRecOn with
    | ind n ih4 =>
      intro n1 i1 hmu4 hi4_0 hi4_1 H locs ls hP hD hS hl
      refine lv_iload_n hx hb dX2_countThere_4 rfl (lv_at hl 0 rfl) ?_
      refine lv_bipush (v := iI 6) hx hb dX2_countThere_5 (by decide) ?_
      refine z_icmp_ge (tgt := 38) hx hb dX2_countThere_7 (by decide) ⟨by omega, by omega⟩ ⟨by omega, by omega⟩ (fun c_7 => ?_) (fun c_7 => ?_)
      · refine lv_iload_n hx hb dX2_countThere_38 rfl (lv_at hl 1 rfl) ?_
        exact z_iret hx hb hr hlocks hK hS () (by rw [hi4_0, show i1 = 6 by omega]; rfl) hP hD dX2_countThere_39
      · refine lv_iload_n hx hb dX2_countThere_10 rfl (lv_at hl 1 rfl) ?_
        refine lv_aload_n hx hb dX2_countThere_11 rfl (lv_at hl 2 rfl) ?_
        refine va_get (D := E.1) (cl := vwCl) (ci := 2) (v := .ref (q 1)) (C := RX2) (T := TX2) (N := 7) hx hb hts hinX2 hown hK hP 0 rfl rfl 0 (by decide) hf_11 (fun _ h => h) rfl dX2_countThere_12 ?_
        refine lv_iload_n hx hb dX2_countThere_15 rfl (lv_at hl 0 rfl) ?_
        refine z_aald (D := E.1) (cl := vwCl) (tys := zT E) (f := fun j : Nat => q (2 + 4 * j)) hx hb hK hP 1 3 rfl rfl (by omega) (by omega) (by omega) dX2_countThere_16 ?_
        refine W.eq (g2 := F0 m 17 ls [.ref (gq q i1 0), .int (iI n1)]) rfl ?_
        have hP := zP_perm hP (wS_perm (g := i1) (by omega))
        have hD := zD_perm hD (wS_perm (g := i1) (by omega))
        obtain ⟨hx1, hx2, hx3, hx4, hx5, hx6⟩ := hsi i1 (by omega) (by omega)
        have hP : va_P E.1 vwCl (wF E q i1 (wR E q G i1) jb jr lf jf rd vr (G i1 0 0) (G i1 0 1) (G i1 0 2) (G i1 0 3) (G i1 0 4) (G i1 0 5) (G i1 0 6) (G i1 1) (G i1 2) (G i1 3)) H := hP
        have hD : va_D A (wF E q i1 (wR E q G i1) jb jr lf jf rd vr (G i1 0 0) (G i1 0 1) (G i1 0 2) (G i1 0 3) (G i1 0 4) (G i1 0 5) (G i1 0 6) (G i1 1) (G i1 2) (G i1 3)) := hD
        refine va_get (D := E.1) (cl := vwCl) (ci := 0) (v := .int (iI (G i1 0 2))) (C := RX0) (T := TX0) (N := 10) hx hb hts hinX0 hown hK hP 2 rfl rfl 2 (by decide) hf_100 (fun _ h => h) rfl dX2_countThere_17 ?_
        refine lv_aload_n hx hb dX2_countThere_20 rfl (lv_at hl 2 rfl) ?_
        refine va_get (D := E.1) (cl := vwCl) (ci := 2) (v := .ref (q 1)) (C := RX2) (T := TX2) (N := 7) hx hb hts hinX2 hown hK hP 0 rfl rfl 0 (by decide) hf_11 (fun _ h => h) rfl dX2_countThere_21 ?_
        refine lv_iload_n hx hb dX2_countThere_24 rfl (lv_at hl 0 rfl) ?_
        refine z_aald (D := E.1) (cl := vwCl) (tys := zT E) (f := fun j : Nat => q (2 + 4 * j)) hx hb hK hP 1 3 rfl rfl (by omega) (by omega) (by omega) dX2_countThere_25 ?_
        refine W.eq (g2 := F0 m 26 ls [.ref (gq q i1 0), .int (iI (G i1 0 2)), .int (iI n1)]) rfl ?_
        have hP : va_P E.1 vwCl (wF E q i1 (wR E q G i1) jb jr lf jf rd vr (G i1 0 0) (G i1 0 1) (G i1 0 2) (G i1 0 3) (G i1 0 4) (G i1 0 5) (G i1 0 6) (G i1 1) (G i1 2) (G i1 3)) H := hP
        have hD : va_D A (wF E q i1 (wR E q G i1) jb jr lf jf rd vr (G i1 0 0) (G i1 0 1) (G i1 0 2) (G i1 0 3) (G i1 0 4) (G i1 0 5) (G i1 0 6) (G i1 1) (G i1 2) (G i1 3)) := hD
        refine z_callM (w0 := wS2 E q jb jr lf jf rd vr) (ci := 0) (qk := 0) (As := []) (rest := [.int (iI (G i1 0 2)), .int (iI n1)]) hx hb hml hown hts hK hA hl.1 hP hD hS (c_X0_countHoles l E (gq q i1) (G i1 1) (G i1 2) (G i1 3) (G i1 0 0) (G i1 0 1) (G i1 0 2) (G i1 0 3) (G i1 0 4) (G i1 0 5) (G i1 0 6)   (by first | omega | exact hx3 | exact hx3 _ (by omega) (by omega) | exact ⟨by omega, by omega⟩) (by first | omega | exact hx3 | exact hx3 _ (by omega) (by omega) | exact ⟨by omega, by omega⟩) (by first | omega | exact hx3 | exact hx3 _ (by omega) (by omega) | exact ⟨by omega, by omega⟩)) gX2_countThere_X0_countHoles rfl ndX0_countHoles ⟨Nat.le_of_ble_eq_true rfl, Nat.le_of_ble_eq_true rfl⟩ rfl rfl rfl rfl rfl (Nat.le_of_ble_eq_true rfl) dX2_countThere_26 ⟨Nat.le_of_ble_eq_true rfl, Nat.le_of_ble_eq_true rfl⟩ (fun x u H locs hpost hP hD hS => ?_)
        subst hpost
        have hP : va_P E.1 vwCl (wF E q i1 (wR E q G i1) jb jr lf jf rd vr (G i1 0 0) (G i1 0 1) (G i1 0 2) (G i1 0 3) (G i1 0 4) (G i1 0 5) (G i1 0 6) (G i1 1) (G i1 2) (G i1 3)) H := hP
        have hD : va_D A (wF E q i1 (wR E q G i1) jb jr lf jf rd vr (G i1 0 0) (G i1 0 1) (G i1 0 2) (G i1 0 3) (G i1 0 4) (G i1 0 5) (G i1 0 6) (G i1 1) (G i1 2) (G i1 3)) := hD
        refine z_isub hx hb dX2_countThere_29 ?_
        refine z_iadd hx hb dX2_countThere_30 ?_
        refine lv_istore_n (lv' := [(1, .int (iI (n1 + ((G i1 0 2) - (cHo (G i1 0 1) (G i1 0 2) (G i1 1)))))), (2, .int (iI i1)), (0, .ref (q 0))]) hx hb dX2_countThere_31 rfl hl (by decide) rfl (fun ls hl => ?_)
        refine lv_iinc (v := iI (i1 + 1)) (lv' := [(2, .int (iI (i1 + 1))), (1, .int (iI (n1 + ((G i1 0 2) - (cHo (G i1 0 1) (G i1 0 2) (G i1 1)))))), (0, .ref (q 0))]) hx hb dX2_countThere_32 hl (k := 1) rfl (iI_add _ _) (by decide) rfl (fun ls hl => ?_)
        refine lv_goto (tgt := 4) hx hb dX2_countThere_35 (by decide) ?_
        have hP : va_P E.1 vwCl (wSt E q jb jr lf jf rd vr G) H := zP_perm hP (wS_perm (g := i1) (by omega)).symm
        have hD : va_D A (wSt E q jb jr lf jf rd vr G) := zD_perm hD (wS_perm (g := i1) (by omega)).symm
        exact ih4 (6 - (i1 + 1) : Int).toNat (by omega) (n1 + ((G i1 0 2) - (cHo (G i1 0 1) (G i1 0 2) (G i1 1)))) (i1 + 1) (by omega) (by rw [itr_step (by omega), ← hi4_0]) (by omega) _ _ ls hP hD hS (lv_sub hl [0, 1, 2] rfl)
  exact hloop4 (6 - 0 : Int).toNat 0 0 (by omega) (rfl) (by omega) _ _ ls hP hD hS (lv_sub hl [0, 1, 2] rfl)

theorem ndX2_countMadeByJob : yX2_countMadeByJob.cls = RX2 ∧ yX2_countMadeByJob.cls ≠ "java/lang/invoke/MethodHandle" ∧ yX2_countMadeByJob.cls ≠ "java/lang/invoke/VarHandle" ∧ (parseMethodDescriptor yX2_countMadeByJob.desc).map (fun d => d.parameters.length) = some 0 := by decide +kernel
set_option maxRecDepth 100000 in
set_option maxHeartbeats 1000000 in
theorem c_X2_countMadeByJob (l : Launch) (E : zE) (q : Nat → Nat) (jb jr lf jf rd vr : Int) (G : Int → zGr) (h0 : SI G) (h1 : jr = 0 ∨ jr = 1) : zF l E yX2_countMadeByJob wsX2_countMadeByJob 2 42 [.ref (q 0)] (wSt E q jb jr lf jf rd vr G) (sMd jr G) (wSt E q jb jr lf jf rd vr G) := by
  have hsi := h0
  refine zC_of (cc := cX2_countMadeByJob) (maxL := 3) (by decide) rfl (Nat.le_of_ble_eq_true rfl) ?_
  intro p e s m below meth c ls A hx hb hr hts hown hlocks hml hK hA hS hP hD hl
  have hown : s.vm.findClass RX2 = some m.cls := hown
  have hl : lv_has ls 3 [(0, .ref (q 0))] := hl
  have hinX2 : ∀ v ∈ u_ws RX2 TX2 7, v ∈ wsX2_countMadeByJob := by decide +kernel
  have hinX0 : ∀ v ∈ u_ws RX0 TX0 10, v ∈ wsX2_countMadeByJob := by decide +kernel
  have hf_21 := hts (.fieldLink RX2 21 "GenerationNames$State" "jobRuns" "Z") (by decide +kernel)
  have hf_11 := hts (.fieldLink RX2 11 "GenerationNames$State" "groups" "[LGenerationNames$Group;") (by decide +kernel)
  have hf_53 := hts (.fieldLink RX2 53 "GenerationNames$Group" "madeByJob" "I") (by decide +kernel)
  refine lv_iconst (v := iI 0) hx hb dX2_countMadeByJob_0 (by decide) ?_
  refine lv_istore_n (lv' := [(1, .int (iI 0)), (0, .ref (q 0))]) hx hb dX2_countMadeByJob_1 rfl hl (by decide) rfl (fun ls hl => ?_)
  refine lv_iconst (v := iI 0) hx hb dX2_countMadeByJob_2 (by decide) ?_
  refine lv_istore_n (lv' := [(2, .int (iI 0)), (1, .int (iI 0)), (0, .ref (q 0))]) hx hb dX2_countMadeByJob_3 rfl hl (by decide) rfl (fun ls hl => ?_)
  have hloop4 : ∀ (n : Nat) (n1 : Int) (i1 : Int) (hmu : 6 - i1 = (n : Int)) (hi4_0 : n1 = itr (fun g n => if ¬ jr = 0 ∧ thP (G g 0 1) (G g 0 2) (G g 1) (G g 0 6) then n + 1 else n) 0 (i1).toNat) (hi4_1 : 0 ≤ i1 ∧ i1 ≤ 6) (H : Heap) (locs : List Loc) (ls : Array Slot), va_P E.1 vwCl (wSt E q jb jr lf jf rd vr G) H → va_D A (wSt E q jb jr lf jf rd vr G) → va_S A s.heap H locs → lv_has ls 3 [(2, .int (iI i1)), (1, .int (iI n1)), (0, .ref (q 0))] → W p l e (zR 2 42) s m ([.ref (q 0)] : List Value).toArray below meth c H locs 0 0 (MQ below (zQ E A (S := Unit) (fun x _ => x = (sMd jr G)) (fun _ => wSt E q jb jr lf jf rd vr G)) ([.ref (q 0)] : List Value).toArray s 0 0 A) (F0 m 4 ls []) := by
    intro n
    induction n using Nat.strongRecOn with
    | ind n ih4 =>
      intro n1 i1 hmu4 hi4_0 hi4_1 H locs ls hP hD hS hl
      refine lv_iload_n hx hb dX2_countMadeByJob_4 rfl (lv_at hl 0 rfl) ?_
      refine lv_bipush (v := iI 6) hx hb dX2_countMadeByJob_5 (by decide) ?_
      refine z_icmp_ge (tgt := 47) hx hb dX2_countMadeByJob_7 (by decide) ⟨by omega, by omega⟩ ⟨by omega, by omega⟩ (fun c_7 => ?_) (fun c_7 => ?_)
      · refine lv_iload_n hx hb dX2_countMadeByJob_47 rfl (lv_at hl 1 rfl) ?_
        exact z_iret hx hb hr hlocks hK hS () (by rw [hi4_0, show i1 = 6 by omega]; rfl) hP hD dX2_countMadeByJob_48
      · refine lv_aload_n hx hb dX2_countMadeByJob_10 rfl (lv_at hl 2 rfl) ?_
        refine va_get (D := E.1) (cl := vwCl) (ci := 2) (v := .int (iI jr)) (C := RX2) (T := TX2) (N := 7) hx hb hts hinX2 hown hK hP 0 rfl rfl 2 (by decide) hf_21 (fun _ h => h) rfl dX2_countMadeByJob_11 ?_
        refine z_if_eq (tgt := 41) hx hb dX2_countMadeByJob_14 (by decide) ⟨by omega, by omega⟩ (fun c_14 => ?_) (fun c_14 => ?_)
        · refine lv_iinc (v := iI (i1 + 1)) (lv' := [(2, .int (iI (i1 + 1))), (1, .int (iI n1)), (0, .ref (q 0))]) hx hb dX2_countMadeByJob_41 hl (k := 0) rfl (iI_add _ _) (by decide) rfl (fun ls hl => ?_)
          refine lv_goto (tgt := 4) hx hb dX2_countMadeByJob_44 (by decide) ?_
          exact ih4 (6 - (i1 + 1) : Int).toNat (by omega) n1 (i1 + 1) (by omega) (by rw [itr_step (by omega), ← hi4_0]; first | rw [if_pos (by omega)] | rw [if_neg (by omega)]) (by omega) _ _ ls hP hD hS (lv_sub hl [0, 1, 2] rfl)
        · refine lv_aload_n hx hb dX2_countMadeByJob_17 rfl (lv_at hl 2 rfl) ?_
          refine va_get (D := E.1) (cl := vwCl) (ci := 2) (v := .ref (q 1)) (C := RX2) (T := TX2) (N := 7) hx hb hts hinX2 hown hK hP 0 rfl rfl 0 (by decide) hf_11 (fun _ h => h) rfl dX2_countMadeByJob_18 ?_
          refine lv_iload_n hx hb dX2_countMadeByJob_21 rfl (lv_at hl 0 rfl) ?_
          refine z_aald (D := E.1) (cl := vwCl) (tys := zT E) (f := fun j : Nat => q (2 + 4 * j)) hx hb hK hP 1 3 rfl rfl (by omega) (by omega) (by omega) dX2_countMadeByJob_22 ?_
          refine W.eq (g2 := F0 m 23 ls [.ref (gq q i1 0)]) rfl ?_
          have hP := zP_perm hP (wS_perm (g := i1) (by omega))
          have hD := zD_perm hD (wS_perm (g := i1) (by omega))
          obtain ⟨hx1, hx2, hx3, hx4, hx5, hx6⟩ := hsi i1 (by omega) (by omega)
          have hP : va_P E.1 vwCl (wF E q i1 (wR E q G i1) jb jr lf jf rd vr (G i1 0 0) (G i1 0 1) (G i1 0 2) (G i1 0 3) (G i1 0 4) (G i1 0 5) (G i1 0 6) (G i1 1) (G i1 2) (G i1 3)) H := hP
          have hD : va_D A (wF E q i1 (wR E q G i1) jb jr lf jf rd vr (G i1 0 0) (G i1 0 1) (G i1 0 2) (G i1 0 3) (G i1 0 4) (G i1 0 5) (G i1 0 6) (G i1 1) (G i1 2) (G i1 3)) := hD
          refine lv_aload_n hx hb dX2_countMadeByJob_23 rfl (lv_at hl 2 rfl) ?_
          refine va_get (D := E.1) (cl := vwCl) (ci := 2) (v := .ref (q 1)) (C := RX2) (T := TX2) (N := 7) hx hb hts hinX2 hown hK hP 0 rfl rfl 0 (by decide) hf_11 (fun _ h => h) rfl dX2_countMadeByJob_24 ?_
          refine lv_iload_n hx hb dX2_countMadeByJob_27 rfl (lv_at hl 0 rfl) ?_
          refine z_aald (D := E.1) (cl := vwCl) (tys := zT E) (f := fun j : Nat => q (2 + 4 * j)) hx hb hK hP 1 3 rfl rfl (by omega) (by omega) (by omega) dX2_countMadeByJob_28 ?_
          refine W.eq (g2 := F0 m 29 ls [.ref (gq q i1 0), .ref (gq q i1 0)]) rfl ?_
          have hP : va_P E.1 vwCl (wF E q i1 (wR E q G i1) jb jr lf jf rd vr (G i1 0 0) (G i1 0 1) (G i1 0 2) (G i1 0 3) (G i1 0 4) (G i1 0 5) (G i1 0 6) (G i1 1) (G i1 2) (G i1 3)) H := hP
          have hD : va_D A (wF E q i1 (wR E q G i1) jb jr lf jf rd vr (G i1 0 0) (G i1 0 1) (G i1 0 2) (G i1 0 3) (G i1 0 4) (G i1 0 5) (G i1 0 6) (G i1 1) (G i1 2) (G i1 3)) := hD
          refine va_get (D := E.1) (cl := vwCl) (ci := 0) (v := .int (iI (G i1 0 6))) (C := RX0) (T := TX0) (N := 10) hx hb hts hinX0 hown hK hP 2 rfl rfl 6 (by decide) hf_53 (fun _ h => h) rfl dX2_countMadeByJob_29 ?_
          refine z_callM (w0 := wS2 E q jb jr lf jf rd vr) (ci := 0) (qk := 0) (As := [.int (iI (G i1 0 6))]) (rest := []) hx hb hml hown hts hK hA hl.1 hP hD hS (c_X0_isThere l E (gq q i1) (G i1 1) (G i1 2) (G i1 3) (G i1 0 0) (G i1 0 1) (G i1 0 2) (G i1 0 3) (G i1 0 4) (G i1 0 5) (G i1 0 6) (G i1 0 6)  (by first | omega | exact hx3 | exact hx3 _ (by omega) (by omega) | exact ⟨by omega, by omega⟩) (by first | omega | exact hx3 | exact hx3 _ (by omega) (by omega) | exact ⟨by omega, by omega⟩) (by first | omega | exact hx3 | exact hx3 _ (by omega) (by omega) | exact ⟨by omega, by omega⟩) (by first | omega | exact hx3 | exact hx3 _ (by omega) (by omega) | exact ⟨by omega, by omega⟩)) gX2_countMadeByJob_X0_isThere rfl ndX0_isThere ⟨Nat.le_of_ble_eq_true rfl, Nat.le_of_ble_eq_true rfl⟩ rfl rfl rfl rfl rfl (Nat.le_of_ble_eq_true rfl) dX2_countMadeByJob_32 ⟨Nat.le_of_ble_eq_true rfl, Nat.le_of_ble_eq_true rfl⟩ (fun x u H locs hpost hP hD hS => ?_)
          subst hpost
          have hP : va_P E.1 vwCl (wF E q i1 (wR E q G i1) jb jr lf jf rd vr (G i1 0 0) (G i1 0 1) (G i1 0 2) (G i1 0 3) (G i1 0 4) (G i1 0 5) (G i1 0 6) (G i1 1) (G i1 2) (G i1 3)) H := hP
          have hD : va_D A (wF E q i1 (wR E q G i1) jb jr lf jf rd vr (G i1 0 0) (G i1 0 1) (G i1 0 2) (G i1 0 3) (G i1 0 4) (G i1 0 5) (G i1 0 6) (G i1 1) (G i1 2) (G i1 3)) := hD
          refine z_ifb_eq (tgt := 41) hx hb dX2_countMadeByJob_35 (by decide) (fun c_35 => ?_) (fun c_35 => ?_)
          · refine lv_iinc (v := iI (i1 + 1)) (lv' := [(2, .int (iI (i1 + 1))), (1, .int (iI n1)), (0, .ref (q 0))]) hx hb dX2_countMadeByJob_41 hl (k := 0) rfl (iI_add _ _) (by decide) rfl (fun ls hl => ?_)
            refine lv_goto (tgt := 4) hx hb dX2_countMadeByJob_44 (by decide) ?_
            have hP : va_P E.1 vwCl (wSt E q jb jr lf jf rd vr G) H := zP_perm hP (wS_perm (g := i1) (by omega)).symm
            have hD : va_D A (wSt E q jb jr lf jf rd vr G) := zD_perm hD (wS_perm (g := i1) (by omega)).symm
            exact ih4 (6 - (i1 + 1) : Int).toNat (by omega) n1 (i1 + 1) (by omega) (by rw [itr_step (by omega), ← hi4_0]; first | rw [if_pos (by omega)] | rw [if_neg (by omega)]) (by omega) _ _ ls hP hD hS (lv_sub hl [0, 1, 2] rfl)
          · refine lv_iinc (v := iI (n1 + 1)) (lv' := [(1, .int (iI (n1 + 1))), (2, .int (iI i1)), (0, .ref (q 0))]) hx hb dX2_countMadeByJob_38 hl (k := 1) rfl (iI_add _ _) (by decide) rfl (fun ls hl => ?_)
            refine lv_iinc (v := iI (i1 + 1)) (lv' := [(2, .int (iI (i1 + 1))), (1, .int (iI (n1 + 1))), (0, .ref (q 0))]) hx hb dX2_countMadeByJob_41 hl (k := 1) rfl (iI_add _ _) (by decide) rfl (fun ls hl => ?_)
            refine lv_goto (tgt := 4) hx hb dX2_countMadeByJob_44 (by decide) ?_
            have hP : va_P E.1 vwCl (wSt E q jb jr lf jf rd vr G) H := zP_perm hP (wS_perm (g := i1) (by omega)).symm
            have hD : va_D A (wSt E q jb jr lf jf rd vr G) := zD_perm hD (wS_perm (g := i1) (by omega)).symm
            exact ih4 (6 - (i1 + 1) : Int).toNat (by omega) (n1 + 1) (i1 + 1) (by omega) (by rw [itr_step (by omega), ← hi4_0]; first | rw [if_pos (by omega)] | rw [if_neg (by omega)]) (by omega) _ _ ls hP hD hS (lv_sub hl [0, 1, 2] rfl)
  exact hloop4 (6 - 0 : Int).toNat 0 0 (by omega) (rfl) (by omega) _ _ ls hP hD hS (lv_sub hl [0, 1, 2] rfl)

theorem ndX2_aboutGroup : yX2_aboutGroup.cls = RX2 ∧ yX2_aboutGroup.cls ≠ "java/lang/invoke/MethodHandle" ∧ yX2_aboutGroup.cls ≠ "java/lang/invoke/VarHandle" ∧ (parseMethodDescriptor yX2_aboutGroup.desc).map (fun d => d.parameters.length) = some 2 := by decide +kernel
set_option maxRecDepth 100000 in
set_option maxHeartbeats 1000000 in
theorem c_X2_aboutGroup (l : Launch) (E : zE) (q : Nat → Nat) (jb jr lf jf rd vr : Int) (G : Int → zGr) (gr : Int) (k : Int) (h0 : rg gr) (h1 : rg k) (h2 : SI G) : zF l E yX2_aboutGroup wsX2_aboutGroup 2 43 [.ref (q 0), .int (iI gr), .int (iI k)] (wSt E q jb jr lf jf rd vr G) (if ¬ (0 ≤ gr ∧ gr ≤ 5) then -1 else if k = 0 then G gr 0 0 else if k = 1 then G gr 0 2 else if k = 2 then cHo (G gr 0 1) (G gr 0 2) (G gr 1) else if k = 3 then nO (G gr 0 1) else if k = 4 then G gr 0 3 else if k = 5 then G gr 0 4 else if k = 6 then cSu (G gr 0 1) (G gr 0 2) (G gr 1) else -2) (wSt E q jb jr lf jf rd vr G) := by
  have hsi := h2
  refine zC_of (cc := cX2_aboutGroup) (maxL := 4) (by decide) rfl (Nat.le_of_ble_eq_true rfl) ?_
  intro p e s m below meth c ls A hx hb hr hts hown hlocks hml hK hA hS hP hD hl
  have hown : s.vm.findClass RX2 = some m.cls := hown
  have hl : lv_has ls 4 [(0, .ref (q 0)), (1, .int (iI gr)), (2, .int (iI k))] := hl
  have hinX2 : ∀ v ∈ u_ws RX2 TX2 7, v ∈ wsX2_aboutGroup := by decide +kernel
  have hinX0 : ∀ v ∈ u_ws RX0 TX0 10, v ∈ wsX2_aboutGroup := by decide +kernel
  have hf_11 := hts (.fieldLink RX2 11 "GenerationNames$State" "groups" "[LGenerationNames$Group;") (by decide +kernel)
  have hf_46 := hts (.fieldLink RX2 46 "GenerationNames$Group" "keep" "I") (by decide +kernel)
  have hf_100 := hts (.fieldLink RX2 100 "GenerationNames$Group" "size" "I") (by decide +kernel)
  have hf_87 := hts (.fieldLink RX2 87 "GenerationNames$Group" "newest" "I") (by decide +kernel)
  have hf_106 := hts (.fieldLink RX2 106 "GenerationNames$Group" "rolledOff" "I") (by decide +kernel)
  have hf_109 := hts (.fieldLink RX2 109 "GenerationNames$Group" "deleted" "I") (by decide +kernel)
  refine lv_aload_n hx hb dX2_aboutGroup_0 rfl (lv_at hl 0 rfl) ?_
  refine lv_iload_n hx hb dX2_aboutGroup_1 rfl (lv_at hl 1 rfl) ?_
  refine z_callV0 (ci := 2) (qk := 0) (As := [.int (iI gr)]) (rest := []) hx hb hml hown hts hK hA hl.1 hP hD hS (c_X2_isGroup l E q jb jr lf jf rd vr G gr  (by first | omega | exact hx3 | exact hx3 _ (by omega) (by omega) | exact ⟨by omega, by omega⟩)) gX2_aboutGroup_X2_isGroup rfl ndX2_isGroup ⟨Nat.le_of_ble_eq_true rfl, Nat.le_of_ble_eq_true rfl⟩ rfl rfl rfl rfl rfl (Nat.le_of_ble_eq_true rfl) dX2_aboutGroup_2 ⟨Nat.le_of_ble_eq_true rfl, Nat.le_of_ble_eq_true rfl⟩ (fun x u H locs hpost hP hD hS => ?_)
  subst hpost
  have hP : va_P E.1 vwCl (wSt E q jb jr lf jf rd vr G) H := hP
  have hD : va_D A (wSt E q jb jr lf jf rd vr G) := hD
  refine z_ifb_ne (tgt := 10) hx hb dX2_aboutGroup_5 (by decide) (fun c_5 => ?_) (fun c_5 => ?_)
  · refine lv_aload_n hx hb dX2_aboutGroup_10 rfl (lv_at hl 0 rfl) ?_
    refine va_get (D := E.1) (cl := vwCl) (ci := 2) (v := .ref (q 1)) (C := RX2) (T := TX2) (N := 7) hx hb hts hinX2 hown hK hP 0 rfl rfl 0 (by decide) hf_11 (fun _ h => h) rfl dX2_aboutGroup_11 ?_
    refine lv_iload_n hx hb dX2_aboutGroup_14 rfl (lv_at hl 1 rfl) ?_
    refine z_aald (D := E.1) (cl := vwCl) (tys := zT E) (f := fun j : Nat => q (2 + 4 * j)) hx hb hK hP 1 3 rfl rfl (by omega) (by omega) (by omega) dX2_aboutGroup_15 ?_
    refine W.eq (g2 := F0 m 16 ls [.ref (gq q gr 0)]) rfl ?_
    have hP := zP_perm hP (wS_perm (g := gr) (by omega))
    have hD := zD_perm hD (wS_perm (g := gr) (by omega))
    obtain ⟨hx1, hx2, hx3, hx4, hx5, hx6⟩ := hsi gr (by omega) (by omega)
    have hP : va_P E.1 vwCl (wF E q gr (wR E q G gr) jb jr lf jf rd vr (G gr 0 0) (G gr 0 1) (G gr 0 2) (G gr 0 3) (G gr 0 4) (G gr 0 5) (G gr 0 6) (G gr 1) (G gr 2) (G gr 3)) H := hP
    have hD : va_D A (wF E q gr (wR E q G gr) jb jr lf jf rd vr (G gr 0 0) (G gr 0 1) (G gr 0 2) (G gr 0 3) (G gr 0 4) (G gr 0 5) (G gr 0 6) (G gr 1) (G gr 2) (G gr 3)) := hD
    refine lv_astore_n (lv' := [(3, .ref (gq q gr 0)), (0, .ref (q 0)), (1, .int (iI gr)), (2, .int (iI k))]) hx hb dX2_aboutGroup_16 rfl hl (by decide) rfl (fun ls hl => ?_)
    refine lv_iload_n hx hb dX2_aboutGroup_17 rfl (lv_at hl 3 rfl) ?_
    by_cases sw_18_0 : k = 0
    · refine lv_tableIn (off := 42) (tgt := 60) hx hb dX2_aboutGroup_18 (by rw [toInt_iI ⟨by omega, by omega⟩]; omega) (by rw [toInt_iI ⟨by omega, by omega⟩]; omega) (by rw [toInt_iI ⟨by omega, by omega⟩, sw_18_0]; rfl) (by decide) ?_
      refine lv_aload_n hx hb dX2_aboutGroup_60 rfl (lv_at hl 0 rfl) ?_
      refine va_get (D := E.1) (cl := vwCl) (ci := 0) (v := .int (iI (G gr 0 0))) (C := RX0) (T := TX0) (N := 10) hx hb hts hinX0 hown hK hP 2 rfl rfl 0 (by decide) hf_46 (fun _ h => h) rfl dX2_aboutGroup_61 ?_
      have hP : va_P E.1 vwCl (wSt E q jb jr lf jf rd vr G) H := zP_perm hP (wS_perm (g := gr) (by omega)).symm
      have hD : va_D A (wSt E q jb jr lf jf rd vr G) := zD_perm hD (wS_perm (g := gr) (by omega)).symm
      exact z_iret hx hb hr hlocks hK hS () (by (repeat (first | with_reducible rfl | rw [if_pos (by omega)] | rw [if_neg (by omega)]))) hP hD dX2_aboutGroup_64
    by_cases sw_18_1 : k = 1
    · refine lv_tableIn (off := 47) (tgt := 65) hx hb dX2_aboutGroup_18 (by rw [toInt_iI ⟨by omega, by omega⟩]; omega) (by rw [toInt_iI ⟨by omega, by omega⟩]; omega) (by rw [toInt_iI ⟨by omega, by omega⟩, sw_18_1]; rfl) (by decide) ?_
      refine lv_aload_n hx hb dX2_aboutGroup_65 rfl (lv_at hl 0 rfl) ?_
      refine va_get (D := E.1) (cl := vwCl) (ci := 0) (v := .int (iI (G gr 0 2))) (C := RX0) (T := TX0) (N := 10) hx hb hts hinX0 hown hK hP 2 rfl rfl 2 (by decide) hf_100 (fun _ h => h) rfl dX2_aboutGroup_66 ?_
      have hP : va_P E.1 vwCl (wSt E q jb jr lf jf rd vr G) H := zP_perm hP (wS_perm (g := gr) (by omega)).symm
      have hD : va_D A (wSt E q jb jr lf jf rd vr G) := zD_perm hD (wS_perm (g := gr) (by omega)).symm
      exact z_iret hx hb hr hlocks hK hS () (by (repeat (first | with_reducible rfl | rw [if_pos (by omega)] | rw [if_neg (by omega)]))) hP hD dX2_aboutGroup_69
    by_cases sw_18_2 : k = 2
    · refine lv_tableIn (off := 52) (tgt := 70) hx hb dX2_aboutGroup_18 (by rw [toInt_iI ⟨by omega, by omega⟩]; omega) (by rw [toInt_iI ⟨by omega, by omega⟩]; omega) (by rw [toInt_iI ⟨by omega, by omega⟩, sw_18_2]; rfl) (by decide) ?_
      refine lv_aload_n hx hb dX2_aboutGroup_70 rfl (lv_at hl 0 rfl) ?_
      refine z_callM (w0 := wS2 E q jb jr lf jf rd vr) (ci := 0) (qk := 0) (As := []) (rest := []) hx hb hml hown hts hK hA hl.1 hP hD hS (c_X0_countHoles l E (gq q gr) (G gr 1) (G gr 2) (G gr 3) (G gr 0 0) (G gr 0 1) (G gr 0 2) (G gr 0 3) (G gr 0 4) (G gr 0 5) (G gr 0 6)   (by first | omega | exact hx3 | exact hx3 _ (by omega) (by omega) | exact ⟨by omega, by omega⟩) (by first | omega | exact hx3 | exact hx3 _ (by omega) (by omega) | exact ⟨by omega, by omega⟩) (by first | omega | exact hx3 | exact hx3 _ (by omega) (by omega) | exact ⟨by omega, by omega⟩)) gX2_aboutGroup_X0_countHoles rfl ndX0_countHoles ⟨Nat.le_of_ble_eq_true rfl, Nat.le_of_ble_eq_true rfl⟩ rfl rfl rfl rfl rfl (Nat.le_of_ble_eq_true rfl) dX2_aboutGroup_71 ⟨Nat.le_of_ble_eq_true rfl, Nat.le_of_ble_eq_true rfl⟩ (fun x u H locs hpost hP hD hS => ?_)
      subst hpost
      have hP : va_P E.1 vwCl (wF E q gr (wR E q G gr) jb jr lf jf rd vr (G gr 0 0) (G gr 0 1) (G gr 0 2) (G gr 0 3) (G gr 0 4) (G gr 0 5) (G gr 0 6) (G gr 1) (G gr 2) (G gr 3)) H := hP
      have hD : va_D A (wF E q gr (wR E q G gr) jb jr lf jf rd vr (G gr 0 0) (G gr 0 1) (G gr 0 2) (G gr 0 3) (G gr 0 4) (G gr 0 5) (G gr 0 6) (G gr 1) (G gr 2) (G gr 3)) := hD
      have hP : va_P E.1 vwCl (wSt E q jb jr lf jf rd vr G) H := zP_perm hP (wS_perm (g := gr) (by omega)).symm
      have hD : va_D A (wSt E q jb jr lf jf rd vr G) := zD_perm hD (wS_perm (g := gr) (by omega)).symm
      exact z_iret hx hb hr hlocks hK hS () (by (repeat (first | with_reducible rfl | rw [if_pos (by omega)] | rw [if_neg (by omega)]))) hP hD dX2_aboutGroup_74
    by_cases sw_18_3 : k = 3
    · refine lv_tableIn (off := 57) (tgt := 75) hx hb dX2_aboutGroup_18 (by rw [toInt_iI ⟨by omega, by omega⟩]; omega) (by rw [toInt_iI ⟨by omega, by omega⟩]; omega) (by rw [toInt_iI ⟨by omega, by omega⟩, sw_18_3]; rfl) (by decide) ?_
      refine lv_aload_n hx hb dX2_aboutGroup_75 rfl (lv_at hl 0 rfl) ?_
      refine lv_aload_n hx hb dX2_aboutGroup_76 rfl (lv_at hl 0 rfl) ?_
      refine va_get (D := E.1) (cl := vwCl) (ci := 0) (v := .int (iI (G gr 0 1))) (C := RX0) (T := TX0) (N := 10) hx hb hts hinX0 hown hK hP 2 rfl rfl 1 (by decide) hf_87 (fun _ h => h) rfl dX2_aboutGroup_77 ?_
      refine z_callM (w0 := wS2 E q jb jr lf jf rd vr) (ci := 0) (qk := 0) (As := [.int (iI (G gr 0 1))]) (rest := []) hx hb hml hown hts hK hA hl.1 hP hD hS (c_X0_numberOf l E (gq q gr) (G gr 1) (G gr 2) (G gr 3) (G gr 0 0) (G gr 0 1) (G gr 0 2) (G gr 0 3) (G gr 0 4) (G gr 0 5) (G gr 0 6) (G gr 0 1)  (by first | omega | exact hx3 | exact hx3 _ (by omega) (by omega) | exact ⟨by omega, by omega⟩)) gX2_aboutGroup_X0_numberOf rfl ndX0_numberOf ⟨Nat.le_of_ble_eq_true rfl, Nat.le_of_ble_eq_true rfl⟩ rfl rfl rfl rfl rfl (Nat.le_of_ble_eq_true rfl) dX2_aboutGroup_80 ⟨Nat.le_of_ble_eq_true rfl, Nat.le_of_ble_eq_true rfl⟩ (fun x u H locs hpost hP hD hS => ?_)
      subst hpost
      have hP : va_P E.1 vwCl (wF E q gr (wR E q G gr) jb jr lf jf rd vr (G gr 0 0) (G gr 0 1) (G gr 0 2) (G gr 0 3) (G gr 0 4) (G gr 0 5) (G gr 0 6) (G gr 1) (G gr 2) (G gr 3)) H := hP
      have hD : va_D A (wF E q gr (wR E q G gr) jb jr lf jf rd vr (G gr 0 0) (G gr 0 1) (G gr 0 2) (G gr 0 3) (G gr 0 4) (G gr 0 5) (G gr 0 6) (G gr 1) (G gr 2) (G gr 3)) := hD
      have hP : va_P E.1 vwCl (wSt E q jb jr lf jf rd vr G) H := zP_perm hP (wS_perm (g := gr) (by omega)).symm
      have hD : va_D A (wSt E q jb jr lf jf rd vr G) := zD_perm hD (wS_perm (g := gr) (by omega)).symm
      exact z_iret hx hb hr hlocks hK hS () (by (repeat (first | with_reducible rfl | rw [if_pos (by omega)] | rw [if_neg (by omega)]))) hP hD dX2_aboutGroup_83
    by_cases sw_18_4 : k = 4
    · refine lv_tableIn (off := 66) (tgt := 84) hx hb dX2_aboutGroup_18 (by rw [toInt_iI ⟨by omega, by omega⟩]; omega) (by rw [toInt_iI ⟨by omega, by omega⟩]; omega) (by rw [toInt_iI ⟨by omega, by omega⟩, sw_18_4]; rfl) (by decide) ?_
      refine lv_aload_n hx hb dX2_aboutGroup_84 rfl (lv_at hl 0 rfl) ?_
      refine va_get (D := E.1) (cl := vwCl) (ci := 0) (v := .int (iI (G gr 0 3))) (C := RX0) (T := TX0) (N := 10) hx hb hts hinX0 hown hK hP 2 rfl rfl 3 (by decide) hf_106 (fun _ h => h) rfl dX2_aboutGroup_85 ?_
      have hP : va_P E.1 vwCl (wSt E q jb jr lf jf rd vr G) H := zP_perm hP (wS_perm (g := gr) (by omega)).symm
      have hD : va_D A (wSt E q jb jr lf jf rd vr G) := zD_perm hD (wS_perm (g := gr) (by omega)).symm
      exact z_iret hx hb hr hlocks hK hS () (by (repeat (first | with_reducible rfl | rw [if_pos (by omega)] | rw [if_neg (by omega)]))) hP hD dX2_aboutGroup_88
    by_cases sw_18_5 : k = 5
    · refine lv_tableIn (off := 71) (tgt := 89) hx hb dX2_aboutGroup_18 (by rw [toInt_iI ⟨by omega, by omega⟩]; omega) (by rw [toInt_iI ⟨by omega, by omega⟩]; omega) (by rw [toInt_iI ⟨by omega, by omega⟩, sw_18_5]; rfl) (by decide) ?_
      refine lv_aload_n hx hb dX2_aboutGroup_89 rfl (lv_at hl 0 rfl) ?_
      refine va_get (D := E.1) (cl := vwCl) (ci := 0) (v := .int (iI (G gr 0 4))) (C := RX0) (T := TX0) (N := 10) hx hb hts hinX0 hown hK hP 2 rfl rfl 4 (by decide) hf_109 (fun _ h => h) rfl dX2_aboutGroup_90 ?_
      have hP : va_P E.1 vwCl (wSt E q jb jr lf jf rd vr G) H := zP_perm hP (wS_perm (g := gr) (by omega)).symm
      have hD : va_D A (wSt E q jb jr lf jf rd vr G) := zD_perm hD (wS_perm (g := gr) (by omega)).symm
      exact z_iret hx hb hr hlocks hK hS () (by (repeat (first | with_reducible rfl | rw [if_pos (by omega)] | rw [if_neg (by omega)]))) hP hD dX2_aboutGroup_93
    by_cases sw_18_6 : k = 6
    · refine lv_tableIn (off := 76) (tgt := 94) hx hb dX2_aboutGroup_18 (by rw [toInt_iI ⟨by omega, by omega⟩]; omega) (by rw [toInt_iI ⟨by omega, by omega⟩]; omega) (by rw [toInt_iI ⟨by omega, by omega⟩, sw_18_6]; rfl) (by decide) ?_
      refine lv_aload_n hx hb dX2_aboutGroup_94 rfl (lv_at hl 0 rfl) ?_
      refine z_callM (w0 := wS2 E q jb jr lf jf rd vr) (ci := 0) (qk := 0) (As := []) (rest := []) hx hb hml hown hts hK hA hl.1 hP hD hS (c_X0_sumOfData l E (gq q gr) (G gr 1) (G gr 2) (G gr 3) (G gr 0 0) (G gr 0 1) (G gr 0 2) (G gr 0 3) (G gr 0 4) (G gr 0 5) (G gr 0 6)   (by first | omega | exact hx3 | exact hx3 _ (by omega) (by omega) | exact ⟨by omega, by omega⟩) (by first | omega | exact hx3 | exact hx3 _ (by omega) (by omega) | exact ⟨by omega, by omega⟩) (by first | omega | exact hx3 | exact hx3 _ (by omega) (by omega) | exact ⟨by omega, by omega⟩)) gX2_aboutGroup_X0_sumOfData rfl ndX0_sumOfData ⟨Nat.le_of_ble_eq_true rfl, Nat.le_of_ble_eq_true rfl⟩ rfl rfl rfl rfl rfl (Nat.le_of_ble_eq_true rfl) dX2_aboutGroup_95 ⟨Nat.le_of_ble_eq_true rfl, Nat.le_of_ble_eq_true rfl⟩ (fun x u H locs hpost hP hD hS => ?_)
      subst hpost
      have hP : va_P E.1 vwCl (wF E q gr (wR E q G gr) jb jr lf jf rd vr (G gr 0 0) (G gr 0 1) (G gr 0 2) (G gr 0 3) (G gr 0 4) (G gr 0 5) (G gr 0 6) (G gr 1) (G gr 2) (G gr 3)) H := hP
      have hD : va_D A (wF E q gr (wR E q G gr) jb jr lf jf rd vr (G gr 0 0) (G gr 0 1) (G gr 0 2) (G gr 0 3) (G gr 0 4) (G gr 0 5) (G gr 0 6) (G gr 1) (G gr 2) (G gr 3)) := hD
      have hP : va_P E.1 vwCl (wSt E q jb jr lf jf rd vr G) H := zP_perm hP (wS_perm (g := gr) (by omega)).symm
      have hD : va_D A (wSt E q jb jr lf jf rd vr G) := zD_perm hD (wS_perm (g := gr) (by omega)).symm
      exact z_iret hx hb hr hlocks hK hS () (by (repeat (first | with_reducible rfl | rw [if_pos (by omega)] | rw [if_neg (by omega)]))) hP hD dX2_aboutGroup_98
    refine lv_tableOut (tgt := 99) hx hb dX2_aboutGroup_18 (by rw [toInt_iI ⟨by omega, by omega⟩]; omega) (by decide) ?_
    refine lv_bipush (v := iI (-2)) hx hb dX2_aboutGroup_99 (by decide) ?_
    have hP : va_P E.1 vwCl (wSt E q jb jr lf jf rd vr G) H := zP_perm hP (wS_perm (g := gr) (by omega)).symm
    have hD : va_D A (wSt E q jb jr lf jf rd vr G) := zD_perm hD (wS_perm (g := gr) (by omega)).symm
    exact z_iret hx hb hr hlocks hK hS () (by (repeat (first | with_reducible rfl | rw [if_pos (by omega)] | rw [if_neg (by omega)]))) hP hD dX2_aboutGroup_101
  · refine lv_iconst (v := iI (-1)) hx hb dX2_aboutGroup_8 (by decide) ?_
    exact z_iret hx hb hr hlocks hK hS () (by (repeat (first | with_reducible rfl | rw [if_pos (by omega)] | rw [if_neg (by omega)]))) hP hD dX2_aboutGroup_9

theorem ndX2_aboutGeneration : yX2_aboutGeneration.cls = RX2 ∧ yX2_aboutGeneration.cls ≠ "java/lang/invoke/MethodHandle" ∧ yX2_aboutGeneration.cls ≠ "java/lang/invoke/VarHandle" ∧ (parseMethodDescriptor yX2_aboutGeneration.desc).map (fun d => d.parameters.length) = some 3 := by decide +kernel
set_option maxRecDepth 100000 in
set_option maxHeartbeats 1000000 in
theorem c_X2_aboutGeneration (l : Launch) (E : zE) (q : Nat → Nat) (jb jr lf jf rd vr : Int) (G : Int → zGr) (gr : Int) (pl : Int) (k : Int) (h0 : rg gr) (h1 : rg pl) (h2 : rg k) (h3 : SI G) (h4 : jr = 0 ∨ jr = 1) : zF l E yX2_aboutGeneration wsX2_aboutGeneration 1 22 [.ref (q 0), .int (iI gr), .int (iI pl), .int (iI k)] (wSt E q jb jr lf jf rd vr G) (if ¬ (0 ≤ gr ∧ gr ≤ 5 ∧ 0 ≤ pl ∧ pl < G gr 0 2) then -1 else if k = 0 then nO (G gr 0 1 - pl) else if k = 1 then G gr 1 ((G gr 0 1 - pl) % 8) else if k = 2 then (if G gr 1 ((G gr 0 1 - pl) % 8) = -6 then 1 else 0) else if k = 3 then G gr 2 ((G gr 0 1 - pl) % 8) else if k = 4 then G gr 3 ((G gr 0 1 - pl) % 8) else if k = 5 then (if ¬ jr = 0 ∧ ¬ G gr 1 ((G gr 0 1 - pl) % 8) = -6 then nFJ (G gr 0 5) (G gr 0 6) (G gr 0 1 - pl) else -6) else -2) (wSt E q jb jr lf jf rd vr G) := by
  have hsi := h3
  refine zC_of (cc := cX2_aboutGeneration) (maxL := 7) (by decide) rfl (Nat.le_of_ble_eq_true rfl) ?_
  intro p e s m below meth c ls A hx hb hr hts hown hlocks hml hK hA hS hP hD hl
  have hown : s.vm.findClass RX2 = some m.cls := hown
  have hl : lv_has ls 7 [(0, .ref (q 0)), (1, .int (iI gr)), (2, .int (iI pl)), (3, .int (iI k))] := hl
  have hinX2 : ∀ v ∈ u_ws RX2 TX2 7, v ∈ wsX2_aboutGeneration := by decide +kernel
  have hinX0 : ∀ v ∈ u_ws RX0 TX0 10, v ∈ wsX2_aboutGeneration := by decide +kernel
  have hf_11 := hts (.fieldLink RX2 11 "GenerationNames$State" "groups" "[LGenerationNames$Group;") (by decide +kernel)
  have hf_100 := hts (.fieldLink RX2 100 "GenerationNames$Group" "size" "I") (by decide +kernel)
  have hf_87 := hts (.fieldLink RX2 87 "GenerationNames$Group" "newest" "I") (by decide +kernel)
  have hf_78 := hts (.fieldLink RX2 78 "GenerationNames$Group" "data" "[I") (by decide +kernel)
  have hf_82 := hts (.fieldLink RX2 82 "GenerationNames$Group" "reads" "[I") (by decide +kernel)
  have hf_118 := hts (.fieldLink RX2 118 "GenerationNames$Group" "jobs" "[I") (by decide +kernel)
  have hf_21 := hts (.fieldLink RX2 21 "GenerationNames$State" "jobRuns" "Z") (by decide +kernel)
  refine lv_aload_n hx hb dX2_aboutGeneration_0 rfl (lv_at hl 0 rfl) ?_
  refine lv_iload_n hx hb dX2_aboutGeneration_1 rfl (lv_at hl 1 rfl) ?_
  refine z_callV0 (ci := 2) (qk := 0) (As := [.int (iI gr)]) (rest := []) hx hb hml hown hts hK hA hl.1 hP hD hS (c_X2_isGroup l E q jb jr lf jf rd vr G gr  (by first | omega | exact hx3 | exact hx3 _ (by omega) (by omega) | exact ⟨by omega, by omega⟩)) gX2_aboutGeneration_X2_isGroup rfl ndX2_isGroup ⟨Nat.le_of_ble_eq_true rfl, Nat.le_of_ble_eq_true rfl⟩ rfl rfl rfl rfl rfl (Nat.le_of_ble_eq_true rfl) dX2_aboutGeneration_2 ⟨Nat.le_of_ble_eq_true rfl, Nat.le_of_ble_eq_true rfl⟩ (fun x u H locs hpost hP hD hS => ?_)
  subst hpost
  have hP : va_P E.1 vwCl (wSt E q jb jr lf jf rd vr G) H := hP
  have hD : va_D A (wSt E q jb jr lf jf rd vr G) := hD
  refine z_ifb_eq (tgt := 25) hx hb dX2_aboutGeneration_5 (by decide) (fun c_5 => ?_) (fun c_5 => ?_)
  · refine lv_iconst (v := iI (-1)) hx hb dX2_aboutGeneration_25 (by decide) ?_
    exact z_iret hx hb hr hlocks hK hS () (by (repeat (first | with_reducible rfl | rw [if_pos (by omega)] | rw [if_neg (by omega)]))) hP hD dX2_aboutGeneration_26
  · refine lv_iload_n hx hb dX2_aboutGeneration_8 rfl (lv_at hl 2 rfl) ?_
    refine z_if_lt (tgt := 25) hx hb dX2_aboutGeneration_9 (by decide) ⟨by omega, by omega⟩ (fun c_9 => ?_) (fun c_9 => ?_)
    · refine lv_iconst (v := iI (-1)) hx hb dX2_aboutGeneration_25 (by decide) ?_
      exact z_iret hx hb hr hlocks hK hS () (by (repeat (first | with_reducible rfl | rw [if_pos (by omega)] | rw [if_neg (by omega)]))) hP hD dX2_aboutGeneration_26
    · refine lv_iload_n hx hb dX2_aboutGeneration_12 rfl (lv_at hl 2 rfl) ?_
      refine lv_aload_n hx hb dX2_aboutGeneration_13 rfl (lv_at hl 0 rfl) ?_
      refine va_get (D := E.1) (cl := vwCl) (ci := 2) (v := .ref (q 1)) (C := RX2) (T := TX2) (N := 7) hx hb hts hinX2 hown hK hP 0 rfl rfl 0 (by decide) hf_11 (fun _ h => h) rfl dX2_aboutGeneration_14 ?_
      refine lv_iload_n hx hb dX2_aboutGeneration_17 rfl (lv_at hl 1 rfl) ?_
      refine z_aald (D := E.1) (cl := vwCl) (tys := zT E) (f := fun j : Nat => q (2 + 4 * j)) hx hb hK hP 1 3 rfl rfl (by omega) (by omega) (by omega) dX2_aboutGeneration_18 ?_
      refine W.eq (g2 := F0 m 19 ls [.ref (gq q gr 0), .int (iI pl)]) rfl ?_
      have hP := zP_perm hP (wS_perm (g := gr) (by omega))
      have hD := zD_perm hD (wS_perm (g := gr) (by omega))
      obtain ⟨hx1, hx2, hx3, hx4, hx5, hx6⟩ := hsi gr (by omega) (by omega)
      have hP : va_P E.1 vwCl (wF E q gr (wR E q G gr) jb jr lf jf rd vr (G gr 0 0) (G gr 0 1) (G gr 0 2) (G gr 0 3) (G gr 0 4) (G gr 0 5) (G gr 0 6) (G gr 1) (G gr 2) (G gr 3)) H := hP
      have hD : va_D A (wF E q gr (wR E q G gr) jb jr lf jf rd vr (G gr 0 0) (G gr 0 1) (G gr 0 2) (G gr 0 3) (G gr 0 4) (G gr 0 5) (G gr 0 6) (G gr 1) (G gr 2) (G gr 3)) := hD
      refine va_get (D := E.1) (cl := vwCl) (ci := 0) (v := .int (iI (G gr 0 2))) (C := RX0) (T := TX0) (N := 10) hx hb hts hinX0 hown hK hP 2 rfl rfl 2 (by decide) hf_100 (fun _ h => h) rfl dX2_aboutGeneration_19 ?_
      refine z_icmp_lt (tgt := 27) hx hb dX2_aboutGeneration_22 (by decide) ⟨by omega, by omega⟩ ⟨by omega, by omega⟩ (fun c_22 => ?_) (fun c_22 => ?_)
      · refine lv_aload_n hx hb dX2_aboutGeneration_27 rfl (lv_at hl 0 rfl) ?_
        refine va_get (D := E.1) (cl := vwCl) (ci := 2) (v := .ref (q 1)) (C := RX2) (T := TX2) (N := 7) hx hb hts hinX2 hown hK hP 0 rfl rfl 0 (by decide) hf_11 (fun _ h => h) rfl dX2_aboutGeneration_28 ?_
        refine lv_iload_n hx hb dX2_aboutGeneration_31 rfl (lv_at hl 1 rfl) ?_
        refine z_aald (D := E.1) (cl := vwCl) (tys := zT E) (f := fun j : Nat => q (2 + 4 * j)) hx hb hK hP 1 3 rfl rfl (by omega) (by omega) (by omega) dX2_aboutGeneration_32 ?_
        refine W.eq (g2 := F0 m 33 ls [.ref (gq q gr 0)]) rfl ?_
        have hP : va_P E.1 vwCl (wF E q gr (wR E q G gr) jb jr lf jf rd vr (G gr 0 0) (G gr 0 1) (G gr 0 2) (G gr 0 3) (G gr 0 4) (G gr 0 5) (G gr 0 6) (G gr 1) (G gr 2) (G gr 3)) H := hP
        have hD : va_D A (wF E q gr (wR E q G gr) jb jr lf jf rd vr (G gr 0 0) (G gr 0 1) (G gr 0 2) (G gr 0 3) (G gr 0 4) (G gr 0 5) (G gr 0 6) (G gr 1) (G gr 2) (G gr 3)) := hD
        refine lv_astore (lv' := [(4, .ref (gq q gr 0)), (0, .ref (q 0)), (1, .int (iI gr)), (2, .int (iI pl)), (3, .int (iI k))]) hx hb dX2_aboutGeneration_33 hl (by decide) rfl (fun ls hl => ?_)
        refine lv_aload hx hb dX2_aboutGeneration_35 (lv_at hl 0 rfl) ?_
        refine va_get (D := E.1) (cl := vwCl) (ci := 0) (v := .int (iI (G gr 0 1))) (C := RX0) (T := TX0) (N := 10) hx hb hts hinX0 hown hK hP 2 rfl rfl 1 (by decide) hf_87 (fun _ h => h) rfl dX2_aboutGeneration_37 ?_
        refine lv_iload_n hx hb dX2_aboutGeneration_40 rfl (lv_at hl 3 rfl) ?_
        refine z_isub hx hb dX2_aboutGeneration_41 ?_
        refine lv_istore (lv' := [(5, .int (iI ((G gr 0 1) - pl))), (4, .ref (gq q gr 0)), (0, .ref (q 0)), (1, .int (iI gr)), (2, .int (iI pl)), (3, .int (iI k))]) hx hb dX2_aboutGeneration_42 hl (by decide) rfl (fun ls hl => ?_)
        refine lv_iload hx hb dX2_aboutGeneration_44 (lv_at hl 0 rfl) ?_
        refine lv_bipush (v := iI 7) hx hb dX2_aboutGeneration_46 (by decide) ?_
        refine z_iand7 hx hb dX2_aboutGeneration_48 ?_
        refine lv_istore (lv' := [(6, .int (iI (((G gr 0 1) - pl) % 8))), (5, .int (iI ((G gr 0 1) - pl))), (4, .ref (gq q gr 0)), (0, .ref (q 0)), (1, .int (iI gr)), (2, .int (iI pl)), (3, .int (iI k))]) hx hb dX2_aboutGeneration_49 hl (by decide) rfl (fun ls hl => ?_)
        refine lv_iload_n hx hb dX2_aboutGeneration_51 rfl (lv_at hl 6 rfl) ?_
        by_cases sw_52_0 : k = 0
        · refine lv_tableIn (off := 40) (tgt := 92) hx hb dX2_aboutGeneration_52 (by rw [toInt_iI ⟨by omega, by omega⟩]; omega) (by rw [toInt_iI ⟨by omega, by omega⟩]; omega) (by rw [toInt_iI ⟨by omega, by omega⟩, sw_52_0]; rfl) (by decide) ?_
          refine lv_aload hx hb dX2_aboutGeneration_92 (lv_at hl 2 rfl) ?_
          refine lv_iload hx hb dX2_aboutGeneration_94 (lv_at hl 1 rfl) ?_
          refine z_callM (w0 := wS2 E q jb jr lf jf rd vr) (ci := 0) (qk := 0) (As := [.int (iI ((G gr 0 1) - pl))]) (rest := []) hx hb hml hown hts hK hA hl.1 hP hD hS (c_X0_numberOf l E (gq q gr) (G gr 1) (G gr 2) (G gr 3) (G gr 0 0) (G gr 0 1) (G gr 0 2) (G gr 0 3) (G gr 0 4) (G gr 0 5) (G gr 0 6) ((G gr 0 1) - pl)  (by first | omega | exact hx3 | exact hx3 _ (by omega) (by omega) | exact ⟨by omega, by omega⟩)) gX2_aboutGeneration_X0_numberOf rfl ndX0_numberOf ⟨Nat.le_of_ble_eq_true rfl, Nat.le_of_ble_eq_true rfl⟩ rfl rfl rfl rfl rfl (Nat.le_of_ble_eq_true rfl) dX2_aboutGeneration_96 ⟨Nat.le_of_ble_eq_true rfl, Nat.le_of_ble_eq_true rfl⟩ (fun x u H locs hpost hP hD hS => ?_)
          subst hpost
          have hP : va_P E.1 vwCl (wF E q gr (wR E q G gr) jb jr lf jf rd vr (G gr 0 0) (G gr 0 1) (G gr 0 2) (G gr 0 3) (G gr 0 4) (G gr 0 5) (G gr 0 6) (G gr 1) (G gr 2) (G gr 3)) H := hP
          have hD : va_D A (wF E q gr (wR E q G gr) jb jr lf jf rd vr (G gr 0 0) (G gr 0 1) (G gr 0 2) (G gr 0 3) (G gr 0 4) (G gr 0 5) (G gr 0 6) (G gr 1) (G gr 2) (G gr 3)) := hD
          have hP : va_P E.1 vwCl (wSt E q jb jr lf jf rd vr G) H := zP_perm hP (wS_perm (g := gr) (by omega)).symm
          have hD : va_D A (wSt E q jb jr lf jf rd vr G) := zD_perm hD (wS_perm (g := gr) (by omega)).symm
          exact z_iret hx hb hr hlocks hK hS () (by (repeat (first | with_reducible rfl | rw [if_pos (by omega)] | rw [if_neg (by omega)]))) hP hD dX2_aboutGeneration_99
        by_cases sw_52_1 : k = 1
        · refine lv_tableIn (off := 48) (tgt := 100) hx hb dX2_aboutGeneration_52 (by rw [toInt_iI ⟨by omega, by omega⟩]; omega) (by rw [toInt_iI ⟨by omega, by omega⟩]; omega) (by rw [toInt_iI ⟨by omega, by omega⟩, sw_52_1]; rfl) (by decide) ?_
          refine lv_aload hx hb dX2_aboutGeneration_100 (lv_at hl 2 rfl) ?_
          refine va_get (D := E.1) (cl := vwCl) (ci := 0) (v := .ref (gq q gr 1)) (C := RX0) (T := TX0) (N := 10) hx hb hts hinX0 hown hK hP 2 rfl rfl 7 (by decide) hf_78 (fun _ h => h) rfl dX2_aboutGeneration_102 ?_
          refine lv_iload hx hb dX2_aboutGeneration_105 (lv_at hl 0 rfl) ?_
          refine z_iald (D := E.1) (cl := vwCl) (tys := zT E) (f := (G gr 1)) hx hb hK hP 3 0 rfl rfl (by omega) (by omega) (by omega) dX2_aboutGeneration_107 ?_
          have hP : va_P E.1 vwCl (wSt E q jb jr lf jf rd vr G) H := zP_perm hP (wS_perm (g := gr) (by omega)).symm
          have hD : va_D A (wSt E q jb jr lf jf rd vr G) := zD_perm hD (wS_perm (g := gr) (by omega)).symm
          exact z_iret hx hb hr hlocks hK hS () (by (repeat (first | with_reducible rfl | rw [if_pos (by omega)] | rw [if_neg (by omega)]))) hP hD dX2_aboutGeneration_108
        by_cases sw_52_2 : k = 2
        · refine lv_tableIn (off := 57) (tgt := 109) hx hb dX2_aboutGeneration_52 (by rw [toInt_iI ⟨by omega, by omega⟩]; omega) (by rw [toInt_iI ⟨by omega, by omega⟩]; omega) (by rw [toInt_iI ⟨by omega, by omega⟩, sw_52_2]; rfl) (by decide) ?_
          refine lv_aload hx hb dX2_aboutGeneration_109 (lv_at hl 2 rfl) ?_
          refine lv_iload hx hb dX2_aboutGeneration_111 (lv_at hl 1 rfl) ?_
          refine z_callM (w0 := wS2 E q jb jr lf jf rd vr) (ci := 0) (qk := 0) (As := [.int (iI ((G gr 0 1) - pl))]) (rest := []) hx hb hml hown hts hK hA hl.1 hP hD hS (c_X0_isHole l E (gq q gr) (G gr 1) (G gr 2) (G gr 3) (G gr 0 0) (G gr 0 1) (G gr 0 2) (G gr 0 3) (G gr 0 4) (G gr 0 5) (G gr 0 6) ((G gr 0 1) - pl)  (by first | omega | exact hx3 | exact hx3 _ (by omega) (by omega) | exact ⟨by omega, by omega⟩)) gX2_aboutGeneration_X0_isHole rfl ndX0_isHole ⟨Nat.le_of_ble_eq_true rfl, Nat.le_of_ble_eq_true rfl⟩ rfl rfl rfl rfl rfl (Nat.le_of_ble_eq_true rfl) dX2_aboutGeneration_113 ⟨Nat.le_of_ble_eq_true rfl, Nat.le_of_ble_eq_true rfl⟩ (fun x u H locs hpost hP hD hS => ?_)
          subst hpost
          have hP : va_P E.1 vwCl (wF E q gr (wR E q G gr) jb jr lf jf rd vr (G gr 0 0) (G gr 0 1) (G gr 0 2) (G gr 0 3) (G gr 0 4) (G gr 0 5) (G gr 0 6) (G gr 1) (G gr 2) (G gr 3)) H := hP
          have hD : va_D A (wF E q gr (wR E q G gr) jb jr lf jf rd vr (G gr 0 0) (G gr 0 1) (G gr 0 2) (G gr 0 3) (G gr 0 4) (G gr 0 5) (G gr 0 6) (G gr 1) (G gr 2) (G gr 3)) := hD
          refine z_ifb_eq (tgt := 123) hx hb dX2_aboutGeneration_116 (by decide) (fun c_116 => ?_) (fun c_116 => ?_)
          · refine lv_iconst (v := iI 0) hx hb dX2_aboutGeneration_123 (by decide) ?_
            have hP : va_P E.1 vwCl (wSt E q jb jr lf jf rd vr G) H := zP_perm hP (wS_perm (g := gr) (by omega)).symm
            have hD : va_D A (wSt E q jb jr lf jf rd vr G) := zD_perm hD (wS_perm (g := gr) (by omega)).symm
            exact z_iret hx hb hr hlocks hK hS () (by (repeat (first | with_reducible rfl | rw [if_pos (by omega)] | rw [if_neg (by omega)]))) hP hD dX2_aboutGeneration_124
          · refine lv_iconst (v := iI 1) hx hb dX2_aboutGeneration_119 (by decide) ?_
            refine lv_goto (tgt := 124) hx hb dX2_aboutGeneration_120 (by decide) ?_
            have hP : va_P E.1 vwCl (wSt E q jb jr lf jf rd vr G) H := zP_perm hP (wS_perm (g := gr) (by omega)).symm
            have hD : va_D A (wSt E q jb jr lf jf rd vr G) := zD_perm hD (wS_perm (g := gr) (by omega)).symm
            exact z_iret hx hb hr hlocks hK hS () (by (repeat (first | with_reducible rfl | rw [if_pos (by omega)] | rw [if_neg (by omega)]))) hP hD dX2_aboutGeneration_124
        by_cases sw_52_3 : k = 3
        · refine lv_tableIn (off := 73) (tgt := 125) hx hb dX2_aboutGeneration_52 (by rw [toInt_iI ⟨by omega, by omega⟩]; omega) (by rw [toInt_iI ⟨by omega, by omega⟩]; omega) (by rw [toInt_iI ⟨by omega, by omega⟩, sw_52_3]; rfl) (by decide) ?_
          refine lv_aload hx hb dX2_aboutGeneration_125 (lv_at hl 2 rfl) ?_
          refine va_get (D := E.1) (cl := vwCl) (ci := 0) (v := .ref (gq q gr 2)) (C := RX0) (T := TX0) (N := 10) hx hb hts hinX0 hown hK hP 2 rfl rfl 8 (by decide) hf_82 (fun _ h => h) rfl dX2_aboutGeneration_127 ?_
          refine lv_iload hx hb dX2_aboutGeneration_130 (lv_at hl 0 rfl) ?_
          refine z_iald (D := E.1) (cl := vwCl) (tys := zT E) (f := (G gr 2)) hx hb hK hP 4 0 rfl rfl (by omega) (by omega) (by omega) dX2_aboutGeneration_132 ?_
          have hP : va_P E.1 vwCl (wSt E q jb jr lf jf rd vr G) H := zP_perm hP (wS_perm (g := gr) (by omega)).symm
          have hD : va_D A (wSt E q jb jr lf jf rd vr G) := zD_perm hD (wS_perm (g := gr) (by omega)).symm
          exact z_iret hx hb hr hlocks hK hS () (by (repeat (first | with_reducible rfl | rw [if_pos (by omega)] | rw [if_neg (by omega)]))) hP hD dX2_aboutGeneration_133
        by_cases sw_52_4 : k = 4
        · refine lv_tableIn (off := 82) (tgt := 134) hx hb dX2_aboutGeneration_52 (by rw [toInt_iI ⟨by omega, by omega⟩]; omega) (by rw [toInt_iI ⟨by omega, by omega⟩]; omega) (by rw [toInt_iI ⟨by omega, by omega⟩, sw_52_4]; rfl) (by decide) ?_
          refine lv_aload hx hb dX2_aboutGeneration_134 (lv_at hl 2 rfl) ?_
          refine va_get (D := E.1) (cl := vwCl) (ci := 0) (v := .ref (gq q gr 3)) (C := RX0) (T := TX0) (N := 10) hx hb hts hinX0 hown hK hP 2 rfl rfl 9 (by decide) hf_118 (fun _ h => h) rfl dX2_aboutGeneration_136 ?_
          refine lv_iload hx hb dX2_aboutGeneration_139 (lv_at hl 0 rfl) ?_
          refine z_iald (D := E.1) (cl := vwCl) (tys := zT E) (f := (G gr 3)) hx hb hK hP 5 0 rfl rfl (by omega) (by omega) (by omega) dX2_aboutGeneration_141 ?_
          have hP : va_P E.1 vwCl (wSt E q jb jr lf jf rd vr G) H := zP_perm hP (wS_perm (g := gr) (by omega)).symm
          have hD : va_D A (wSt E q jb jr lf jf rd vr G) := zD_perm hD (wS_perm (g := gr) (by omega)).symm
          exact z_iret hx hb hr hlocks hK hS () (by (repeat (first | with_reducible rfl | rw [if_pos (by omega)] | rw [if_neg (by omega)]))) hP hD dX2_aboutGeneration_142
        by_cases sw_52_5 : k = 5
        · refine lv_tableIn (off := 91) (tgt := 143) hx hb dX2_aboutGeneration_52 (by rw [toInt_iI ⟨by omega, by omega⟩]; omega) (by rw [toInt_iI ⟨by omega, by omega⟩]; omega) (by rw [toInt_iI ⟨by omega, by omega⟩, sw_52_5]; rfl) (by decide) ?_
          refine lv_aload_n hx hb dX2_aboutGeneration_143 rfl (lv_at hl 3 rfl) ?_
          refine va_get (D := E.1) (cl := vwCl) (ci := 2) (v := .int (iI jr)) (C := RX2) (T := TX2) (N := 7) hx hb hts hinX2 hown hK hP 0 rfl rfl 2 (by decide) hf_21 (fun _ h => h) rfl dX2_aboutGeneration_144 ?_
          refine z_if_eq (tgt := 170) hx hb dX2_aboutGeneration_147 (by decide) ⟨by omega, by omega⟩ (fun c_147 => ?_) (fun c_147 => ?_)
          · refine lv_bipush (v := iI (-6)) hx hb dX2_aboutGeneration_170 (by decide) ?_
            have hP : va_P E.1 vwCl (wSt E q jb jr lf jf rd vr G) H := zP_perm hP (wS_perm (g := gr) (by omega)).symm
            have hD : va_D A (wSt E q jb jr lf jf rd vr G) := zD_perm hD (wS_perm (g := gr) (by omega)).symm
            exact z_iret hx hb hr hlocks hK hS () (by (repeat (first | with_reducible rfl | rw [if_pos (by omega)] | rw [if_neg (by omega)]))) hP hD dX2_aboutGeneration_172
          · refine lv_aload hx hb dX2_aboutGeneration_150 (lv_at hl 2 rfl) ?_
            refine lv_iload hx hb dX2_aboutGeneration_152 (lv_at hl 1 rfl) ?_
            refine z_callM (w0 := wS2 E q jb jr lf jf rd vr) (ci := 0) (qk := 0) (As := [.int (iI ((G gr 0 1) - pl))]) (rest := []) hx hb hml hown hts hK hA hl.1 hP hD hS (c_X0_isHole l E (gq q gr) (G gr 1) (G gr 2) (G gr 3) (G gr 0 0) (G gr 0 1) (G gr 0 2) (G gr 0 3) (G gr 0 4) (G gr 0 5) (G gr 0 6) ((G gr 0 1) - pl)  (by first | omega | exact hx3 | exact hx3 _ (by omega) (by omega) | exact ⟨by omega, by omega⟩)) gX2_aboutGeneration_X0_isHole rfl ndX0_isHole ⟨Nat.le_of_ble_eq_true rfl, Nat.le_of_ble_eq_true rfl⟩ rfl rfl rfl rfl rfl (Nat.le_of_ble_eq_true rfl) dX2_aboutGeneration_154 ⟨Nat.le_of_ble_eq_true rfl, Nat.le_of_ble_eq_true rfl⟩ (fun x u H locs hpost hP hD hS => ?_)
            subst hpost
            have hP : va_P E.1 vwCl (wF E q gr (wR E q G gr) jb jr lf jf rd vr (G gr 0 0) (G gr 0 1) (G gr 0 2) (G gr 0 3) (G gr 0 4) (G gr 0 5) (G gr 0 6) (G gr 1) (G gr 2) (G gr 3)) H := hP
            have hD : va_D A (wF E q gr (wR E q G gr) jb jr lf jf rd vr (G gr 0 0) (G gr 0 1) (G gr 0 2) (G gr 0 3) (G gr 0 4) (G gr 0 5) (G gr 0 6) (G gr 1) (G gr 2) (G gr 3)) := hD
            refine z_ifb_ne (tgt := 170) hx hb dX2_aboutGeneration_157 (by decide) (fun c_157 => ?_) (fun c_157 => ?_)
            · refine lv_bipush (v := iI (-6)) hx hb dX2_aboutGeneration_170 (by decide) ?_
              have hP : va_P E.1 vwCl (wSt E q jb jr lf jf rd vr G) H := zP_perm hP (wS_perm (g := gr) (by omega)).symm
              have hD : va_D A (wSt E q jb jr lf jf rd vr G) := zD_perm hD (wS_perm (g := gr) (by omega)).symm
              exact z_iret hx hb hr hlocks hK hS () (by (repeat (first | with_reducible rfl | rw [if_pos (by omega)] | rw [if_neg (by omega)]))) hP hD dX2_aboutGeneration_172
            · refine lv_aload hx hb dX2_aboutGeneration_160 (lv_at hl 2 rfl) ?_
              refine lv_iload hx hb dX2_aboutGeneration_162 (lv_at hl 1 rfl) ?_
              refine z_callM (w0 := wS2 E q jb jr lf jf rd vr) (ci := 0) (qk := 0) (As := [.int (iI ((G gr 0 1) - pl))]) (rest := []) hx hb hml hown hts hK hA hl.1 hP hD hS (c_X0_nameForJob l E (gq q gr) (G gr 1) (G gr 2) (G gr 3) (G gr 0 0) (G gr 0 1) (G gr 0 2) (G gr 0 3) (G gr 0 4) (G gr 0 5) (G gr 0 6) ((G gr 0 1) - pl)  (by first | omega | exact hx3 | exact hx3 _ (by omega) (by omega) | exact ⟨by omega, by omega⟩) (by first | omega | exact hx3 | exact hx3 _ (by omega) (by omega) | exact ⟨by omega, by omega⟩) (by first | omega | exact hx3 | exact hx3 _ (by omega) (by omega) | exact ⟨by omega, by omega⟩) (by first | omega | exact hx3 | exact hx3 _ (by omega) (by omega) | exact ⟨by omega, by omega⟩)) gX2_aboutGeneration_X0_nameForJob rfl ndX0_nameForJob ⟨Nat.le_of_ble_eq_true rfl, Nat.le_of_ble_eq_true rfl⟩ rfl rfl rfl rfl rfl (Nat.le_of_ble_eq_true rfl) dX2_aboutGeneration_164 ⟨Nat.le_of_ble_eq_true rfl, Nat.le_of_ble_eq_true rfl⟩ (fun x u H locs hpost hP hD hS => ?_)
              subst hpost
              have hP : va_P E.1 vwCl (wF E q gr (wR E q G gr) jb jr lf jf rd vr (G gr 0 0) (G gr 0 1) (G gr 0 2) (G gr 0 3) (G gr 0 4) (G gr 0 5) (G gr 0 6) (G gr 1) (G gr 2) (G gr 3)) H := hP
              have hD : va_D A (wF E q gr (wR E q G gr) jb jr lf jf rd vr (G gr 0 0) (G gr 0 1) (G gr 0 2) (G gr 0 3) (G gr 0 4) (G gr 0 5) (G gr 0 6) (G gr 1) (G gr 2) (G gr 3)) := hD
              refine lv_goto (tgt := 172) hx hb dX2_aboutGeneration_167 (by decide) ?_
              have hP : va_P E.1 vwCl (wSt E q jb jr lf jf rd vr G) H := zP_perm hP (wS_perm (g := gr) (by omega)).symm
              have hD : va_D A (wSt E q jb jr lf jf rd vr G) := zD_perm hD (wS_perm (g := gr) (by omega)).symm
              exact z_iret hx hb hr hlocks hK hS () (by (repeat (first | with_reducible rfl | rw [if_pos (by omega)] | rw [if_neg (by omega)]))) hP hD dX2_aboutGeneration_172
        refine lv_tableOut (tgt := 173) hx hb dX2_aboutGeneration_52 (by rw [toInt_iI ⟨by omega, by omega⟩]; omega) (by decide) ?_
        refine lv_bipush (v := iI (-2)) hx hb dX2_aboutGeneration_173 (by decide) ?_
        have hP : va_P E.1 vwCl (wSt E q jb jr lf jf rd vr G) H := zP_perm hP (wS_perm (g := gr) (by omega)).symm
        have hD : va_D A (wSt E q jb jr lf jf rd vr G) := zD_perm hD (wS_perm (g := gr) (by omega)).symm
        exact z_iret hx hb hr hlocks hK hS () (by (repeat (first | with_reducible rfl | rw [if_pos (by omega)] | rw [if_neg (by omega)]))) hP hD dX2_aboutGeneration_175
      · refine lv_iconst (v := iI (-1)) hx hb dX2_aboutGeneration_25 (by decide) ?_
        have hP : va_P E.1 vwCl (wSt E q jb jr lf jf rd vr G) H := zP_perm hP (wS_perm (g := gr) (by omega)).symm
        have hD : va_D A (wSt E q jb jr lf jf rd vr G) := zD_perm hD (wS_perm (g := gr) (by omega)).symm
        exact z_iret hx hb hr hlocks hK hS () (by (repeat (first | with_reducible rfl | rw [if_pos (by omega)] | rw [if_neg (by omega)]))) hP hD dX2_aboutGeneration_26

theorem ndX2_numberByName : yX2_numberByName.cls = RX2 ∧ yX2_numberByName.cls ≠ "java/lang/invoke/MethodHandle" ∧ yX2_numberByName.cls ≠ "java/lang/invoke/VarHandle" ∧ (parseMethodDescriptor yX2_numberByName.desc).map (fun d => d.parameters.length) = some 2 := by decide +kernel
set_option maxRecDepth 100000 in
set_option maxHeartbeats 1000000 in
theorem c_X2_numberByName (l : Launch) (E : zE) (q : Nat → Nat) (jb jr lf jf rd vr : Int) (G : Int → zGr) (gr : Int) (n : Int) (h0 : rg gr) (h1 : rg n) (h2 : SI G) (h3 : jr = 0 ∨ jr = 1) : zF l E yX2_numberByName wsX2_numberByName 3 63 [.ref (q 0), .int (iI gr), .int (iI n)] (wSt E q jb jr lf jf rd vr G) (if ¬ (0 ≤ gr ∧ gr ≤ 5) then -1 else if ¬ (-7 ≤ n ∧ n ≤ 1) then -2 else nIT (G gr 0 1) (G gr 0 2) (G gr 1) (sOf (G gr 0 1) (G gr 0 5) (G gr 0 6) n jr)) (wSt E q jb jr lf jf rd vr G) := by
  have hsi := h2
  refine zC_of (cc := cX2_numberByName) (maxL := 4) (by decide) rfl (Nat.le_of_ble_eq_true rfl) ?_
  intro p e s m below meth c ls A hx hb hr hts hown hlocks hml hK hA hS hP hD hl
  have hown : s.vm.findClass RX2 = some m.cls := hown
  have hl : lv_has ls 4 [(0, .ref (q 0)), (1, .int (iI gr)), (2, .int (iI n))] := hl
  have hinX2 : ∀ v ∈ u_ws RX2 TX2 7, v ∈ wsX2_numberByName := by decide +kernel
  have hf_11 := hts (.fieldLink RX2 11 "GenerationNames$State" "groups" "[LGenerationNames$Group;") (by decide +kernel)
  have hf_21 := hts (.fieldLink RX2 21 "GenerationNames$State" "jobRuns" "Z") (by decide +kernel)
  refine lv_aload_n hx hb dX2_numberByName_0 rfl (lv_at hl 0 rfl) ?_
  refine lv_iload_n hx hb dX2_numberByName_1 rfl (lv_at hl 1 rfl) ?_
  refine z_callV0 (ci := 2) (qk := 0) (As := [.int (iI gr)]) (rest := []) hx hb hml hown hts hK hA hl.1 hP hD hS (c_X2_isGroup l E q jb jr lf jf rd vr G gr  (by first | omega | exact hx3 | exact hx3 _ (by omega) (by omega) | exact ⟨by omega, by omega⟩)) gX2_numberByName_X2_isGroup rfl ndX2_isGroup ⟨Nat.le_of_ble_eq_true rfl, Nat.le_of_ble_eq_true rfl⟩ rfl rfl rfl rfl rfl (Nat.le_of_ble_eq_true rfl) dX2_numberByName_2 ⟨Nat.le_of_ble_eq_true rfl, Nat.le_of_ble_eq_true rfl⟩ (fun x u H locs hpost hP hD hS => ?_)
  subst hpost
  have hP : va_P E.1 vwCl (wSt E q jb jr lf jf rd vr G) H := hP
  have hD : va_D A (wSt E q jb jr lf jf rd vr G) := hD
  refine z_ifb_ne (tgt := 10) hx hb dX2_numberByName_5 (by decide) (fun c_5 => ?_) (fun c_5 => ?_)
  · refine lv_aload_n hx hb dX2_numberByName_10 rfl (lv_at hl 0 rfl) ?_
    refine lv_iload_n hx hb dX2_numberByName_11 rfl (lv_at hl 2 rfl) ?_
    refine z_callV0 (ci := 2) (qk := 0) (As := [.int (iI n)]) (rest := []) hx hb hml hown hts hK hA hl.1 hP hD hS (c_X2_isName l E q jb jr lf jf rd vr G n  (by first | omega | exact hx3 | exact hx3 _ (by omega) (by omega) | exact ⟨by omega, by omega⟩)) gX2_numberByName_X2_isName rfl ndX2_isName ⟨Nat.le_of_ble_eq_true rfl, Nat.le_of_ble_eq_true rfl⟩ rfl rfl rfl rfl rfl (Nat.le_of_ble_eq_true rfl) dX2_numberByName_12 ⟨Nat.le_of_ble_eq_true rfl, Nat.le_of_ble_eq_true rfl⟩ (fun x u H locs hpost hP hD hS => ?_)
    subst hpost
    have hP : va_P E.1 vwCl (wSt E q jb jr lf jf rd vr G) H := hP
    have hD : va_D A (wSt E q jb jr lf jf rd vr G) := hD
    refine z_ifb_ne (tgt := 21) hx hb dX2_numberByName_15 (by decide) (fun c_15 => ?_) (fun c_15 => ?_)
    · refine lv_aload_n hx hb dX2_numberByName_21 rfl (lv_at hl 0 rfl) ?_
      refine va_get (D := E.1) (cl := vwCl) (ci := 2) (v := .ref (q 1)) (C := RX2) (T := TX2) (N := 7) hx hb hts hinX2 hown hK hP 0 rfl rfl 0 (by decide) hf_11 (fun _ h => h) rfl dX2_numberByName_22 ?_
      refine lv_iload_n hx hb dX2_numberByName_25 rfl (lv_at hl 1 rfl) ?_
      refine z_aald (D := E.1) (cl := vwCl) (tys := zT E) (f := fun j : Nat => q (2 + 4 * j)) hx hb hK hP 1 3 rfl rfl (by omega) (by omega) (by omega) dX2_numberByName_26 ?_
      refine W.eq (g2 := F0 m 27 ls [.ref (gq q gr 0)]) rfl ?_
      have hP := zP_perm hP (wS_perm (g := gr) (by omega))
      have hD := zD_perm hD (wS_perm (g := gr) (by omega))
      obtain ⟨hx1, hx2, hx3, hx4, hx5, hx6⟩ := hsi gr (by omega) (by omega)
      have hso := sOf_rg (ne := G gr 0 1) (nj := G gr 0 5) (mj := G gr 0 6) (n := n) (b := jr) (by omega) (by omega) (by omega) (by omega)
      have hP : va_P E.1 vwCl (wF E q gr (wR E q G gr) jb jr lf jf rd vr (G gr 0 0) (G gr 0 1) (G gr 0 2) (G gr 0 3) (G gr 0 4) (G gr 0 5) (G gr 0 6) (G gr 1) (G gr 2) (G gr 3)) H := hP
      have hD : va_D A (wF E q gr (wR E q G gr) jb jr lf jf rd vr (G gr 0 0) (G gr 0 1) (G gr 0 2) (G gr 0 3) (G gr 0 4) (G gr 0 5) (G gr 0 6) (G gr 1) (G gr 2) (G gr 3)) := hD
      refine lv_astore_n (lv' := [(3, .ref (gq q gr 0)), (0, .ref (q 0)), (1, .int (iI gr)), (2, .int (iI n))]) hx hb dX2_numberByName_27 rfl hl (by decide) rfl (fun ls hl => ?_)
      refine lv_aload_n hx hb dX2_numberByName_28 rfl (lv_at hl 0 rfl) ?_
      refine lv_aload_n hx hb dX2_numberByName_29 rfl (lv_at hl 0 rfl) ?_
      refine lv_iload_n hx hb dX2_numberByName_30 rfl (lv_at hl 3 rfl) ?_
      refine lv_aload_n hx hb dX2_numberByName_31 rfl (lv_at hl 1 rfl) ?_
      refine va_get (D := E.1) (cl := vwCl) (ci := 2) (v := .int (iI jr)) (C := RX2) (T := TX2) (N := 7) hx hb hts hinX2 hown hK hP 0 rfl rfl 2 (by decide) hf_21 (fun _ h => h) rfl dX2_numberByName_32 ?_
      refine z_callM (w0 := wS2 E q jb jr lf jf rd vr) (ci := 0) (qk := 0) (As := [.int (iI n), .int (iI jr)]) (rest := [.ref (gq q gr 0)]) hx hb hml hown hts hK hA hl.1 hP hD hS (c_X0_serialOf l E (gq q gr) (G gr 1) (G gr 2) (G gr 3) (G gr 0 0) (G gr 0 1) (G gr 0 2) (G gr 0 3) (G gr 0 4) (G gr 0 5) (G gr 0 6) n jr  (by first | omega | exact hx3 | exact hx3 _ (by omega) (by omega) | exact ⟨by omega, by omega⟩) (by first | omega | exact hx3 | exact hx3 _ (by omega) (by omega) | exact ⟨by omega, by omega⟩)) gX2_numberByName_X0_serialOf rfl ndX0_serialOf ⟨Nat.le_of_ble_eq_true rfl, Nat.le_of_ble_eq_true rfl⟩ rfl rfl rfl rfl rfl (Nat.le_of_ble_eq_true rfl) dX2_numberByName_35 ⟨Nat.le_of_ble_eq_true rfl, Nat.le_of_ble_eq_true rfl⟩ (fun x u H locs hpost hP hD hS => ?_)
      subst hpost
      have hP : va_P E.1 vwCl (wF E q gr (wR E q G gr) jb jr lf jf rd vr (G gr 0 0) (G gr 0 1) (G gr 0 2) (G gr 0 3) (G gr 0 4) (G gr 0 5) (G gr 0 6) (G gr 1) (G gr 2) (G gr 3)) H := hP
      have hD : va_D A (wF E q gr (wR E q G gr) jb jr lf jf rd vr (G gr 0 0) (G gr 0 1) (G gr 0 2) (G gr 0 3) (G gr 0 4) (G gr 0 5) (G gr 0 6) (G gr 1) (G gr 2) (G gr 3)) := hD
      refine z_callM (w0 := wS2 E q jb jr lf jf rd vr) (ci := 0) (qk := 0) (As := [.int (iI (sOf (G gr 0 1) (G gr 0 5) (G gr 0 6) n jr))]) (rest := []) hx hb hml hown hts hK hA hl.1 hP hD hS (c_X0_numberIfThere l E (gq q gr) (G gr 1) (G gr 2) (G gr 3) (G gr 0 0) (G gr 0 1) (G gr 0 2) (G gr 0 3) (G gr 0 4) (G gr 0 5) (G gr 0 6) (sOf (G gr 0 1) (G gr 0 5) (G gr 0 6) n jr)  (by first | omega | exact hx3 | exact hx3 _ (by omega) (by omega) | exact ⟨by omega, by omega⟩) (by first | omega | exact hx3 | exact hx3 _ (by omega) (by omega) | exact ⟨by omega, by omega⟩) (by first | omega | exact hx3 | exact hx3 _ (by omega) (by omega) | exact ⟨by omega, by omega⟩) (by first | omega | exact hx3 | exact hx3 _ (by omega) (by omega) | exact ⟨by omega, by omega⟩)) gX2_numberByName_X0_numberIfThere rfl ndX0_numberIfThere ⟨Nat.le_of_ble_eq_true rfl, Nat.le_of_ble_eq_true rfl⟩ rfl rfl rfl rfl rfl (Nat.le_of_ble_eq_true rfl) dX2_numberByName_38 ⟨Nat.le_of_ble_eq_true rfl, Nat.le_of_ble_eq_true rfl⟩ (fun x u H locs hpost hP hD hS => ?_)
      subst hpost
      have hP : va_P E.1 vwCl (wF E q gr (wR E q G gr) jb jr lf jf rd vr (G gr 0 0) (G gr 0 1) (G gr 0 2) (G gr 0 3) (G gr 0 4) (G gr 0 5) (G gr 0 6) (G gr 1) (G gr 2) (G gr 3)) H := hP
      have hD : va_D A (wF E q gr (wR E q G gr) jb jr lf jf rd vr (G gr 0 0) (G gr 0 1) (G gr 0 2) (G gr 0 3) (G gr 0 4) (G gr 0 5) (G gr 0 6) (G gr 1) (G gr 2) (G gr 3)) := hD
      have hP : va_P E.1 vwCl (wSt E q jb jr lf jf rd vr G) H := zP_perm hP (wS_perm (g := gr) (by omega)).symm
      have hD : va_D A (wSt E q jb jr lf jf rd vr G) := zD_perm hD (wS_perm (g := gr) (by omega)).symm
      exact z_iret hx hb hr hlocks hK hS () (by (repeat (first | with_reducible rfl | rw [if_pos (by omega)] | rw [if_neg (by omega)]))) hP hD dX2_numberByName_41
    · refine lv_bipush (v := iI (-2)) hx hb dX2_numberByName_18 (by decide) ?_
      exact z_iret hx hb hr hlocks hK hS () (by (repeat (first | with_reducible rfl | rw [if_pos (by omega)] | rw [if_neg (by omega)]))) hP hD dX2_numberByName_20
  · refine lv_iconst (v := iI (-1)) hx hb dX2_numberByName_8 (by decide) ?_
    exact z_iret hx hb hr hlocks hK hS () (by (repeat (first | with_reducible rfl | rw [if_pos (by omega)] | rw [if_neg (by omega)]))) hP hD dX2_numberByName_9

theorem ndX2_counted : yX2_counted.cls = RX2 ∧ yX2_counted.cls ≠ "java/lang/invoke/MethodHandle" ∧ yX2_counted.cls ≠ "java/lang/invoke/VarHandle" ∧ (parseMethodDescriptor yX2_counted.desc).map (fun d => d.parameters.length) = some 1 := by decide +kernel
set_option maxRecDepth 100000 in
set_option maxHeartbeats 1000000 in
theorem c_X2_counted (l : Launch) (E : zE) (q : Nat → Nat) (jb jr lf jf rd vr : Int) (G : Int → zGr) (k : Int) (h0 : rg k) (h1 : SI G) (h2 : jr = 0 ∨ jr = 1) : zF l E yX2_counted wsX2_counted 3 65 [.ref (q 0), .int (iI k)] (wSt E q jb jr lf jf rd vr G) (if k = 0 then jb else if k = 1 then (if jr = 0 then 0 else 1) else if k = 2 then jf else if k = 3 then sCT G else if k = 4 then sCH G else if k = 5 then rd else if k = 6 then vr else if k = 7 then sMd jr G else -2) (wSt E q jb jr lf jf rd vr G) := by
  have hsi := h1
  refine zC_of (cc := cX2_counted) (maxL := 2) (by decide) rfl (Nat.le_of_ble_eq_true rfl) ?_
  intro p e s m below meth c ls A hx hb hr hts hown hlocks hml hK hA hS hP hD hl
  have hown : s.vm.findClass RX2 = some m.cls := hown
  have hl : lv_has ls 2 [(0, .ref (q 0)), (1, .int (iI k))] := hl
  have hinX2 : ∀ v ∈ u_ws RX2 TX2 7, v ∈ wsX2_counted := by decide +kernel
  have hf_17 := hts (.fieldLink RX2 17 "GenerationNames$State" "jobsBegun" "I") (by decide +kernel)
  have hf_21 := hts (.fieldLink RX2 21 "GenerationNames$State" "jobRuns" "Z") (by decide +kernel)
  have hf_28 := hts (.fieldLink RX2 28 "GenerationNames$State" "jobsFailed" "I") (by decide +kernel)
  have hf_31 := hts (.fieldLink RX2 31 "GenerationNames$State" "reads" "I") (by decide +kernel)
  have hf_34 := hts (.fieldLink RX2 34 "GenerationNames$State" "vainReads" "I") (by decide +kernel)
  refine lv_iload_n hx hb dX2_counted_0 rfl (lv_at hl 1 rfl) ?_
  by_cases sw_1_0 : k = 0
  · refine lv_tableIn (off := 47) (tgt := 48) hx hb dX2_counted_1 (by rw [toInt_iI ⟨by omega, by omega⟩]; omega) (by rw [toInt_iI ⟨by omega, by omega⟩]; omega) (by rw [toInt_iI ⟨by omega, by omega⟩, sw_1_0]; rfl) (by decide) ?_
    refine lv_aload_n hx hb dX2_counted_48 rfl (lv_at hl 0 rfl) ?_
    refine va_get (D := E.1) (cl := vwCl) (ci := 2) (v := .int (iI jb)) (C := RX2) (T := TX2) (N := 7) hx hb hts hinX2 hown hK hP 0 rfl rfl 1 (by decide) hf_17 (fun _ h => h) rfl dX2_counted_49 ?_
    exact z_iret hx hb hr hlocks hK hS () (by (repeat (first | with_reducible rfl | rw [if_pos (by omega)] | rw [if_neg (by omega)]))) hP hD dX2_counted_52
  by_cases sw_1_1 : k = 1
  · refine lv_tableIn (off := 52) (tgt := 53) hx hb dX2_counted_1 (by rw [toInt_iI ⟨by omega, by omega⟩]; omega) (by rw [toInt_iI ⟨by omega, by omega⟩]; omega) (by rw [toInt_iI ⟨by omega, by omega⟩, sw_1_1]; rfl) (by decide) ?_
    refine lv_aload_n hx hb dX2_counted_53 rfl (lv_at hl 0 rfl) ?_
    refine va_get (D := E.1) (cl := vwCl) (ci := 2) (v := .int (iI jr)) (C := RX2) (T := TX2) (N := 7) hx hb hts hinX2 hown hK hP 0 rfl rfl 2 (by decide) hf_21 (fun _ h => h) rfl dX2_counted_54 ?_
    refine z_if_eq (tgt := 64) hx hb dX2_counted_57 (by decide) ⟨by omega, by omega⟩ (fun c_57 => ?_) (fun c_57 => ?_)
    · refine lv_iconst (v := iI 0) hx hb dX2_counted_64 (by decide) ?_
      exact z_iret hx hb hr hlocks hK hS () (by (repeat (first | with_reducible rfl | rw [if_pos (by omega)] | rw [if_neg (by omega)]))) hP hD dX2_counted_65
    · refine lv_iconst (v := iI 1) hx hb dX2_counted_60 (by decide) ?_
      refine lv_goto (tgt := 65) hx hb dX2_counted_61 (by decide) ?_
      exact z_iret hx hb hr hlocks hK hS () (by (repeat (first | with_reducible rfl | rw [if_pos (by omega)] | rw [if_neg (by omega)]))) hP hD dX2_counted_65
  by_cases sw_1_2 : k = 2
  · refine lv_tableIn (off := 65) (tgt := 66) hx hb dX2_counted_1 (by rw [toInt_iI ⟨by omega, by omega⟩]; omega) (by rw [toInt_iI ⟨by omega, by omega⟩]; omega) (by rw [toInt_iI ⟨by omega, by omega⟩, sw_1_2]; rfl) (by decide) ?_
    refine lv_aload_n hx hb dX2_counted_66 rfl (lv_at hl 0 rfl) ?_
    refine va_get (D := E.1) (cl := vwCl) (ci := 2) (v := .int (iI jf)) (C := RX2) (T := TX2) (N := 7) hx hb hts hinX2 hown hK hP 0 rfl rfl 4 (by decide) hf_28 (fun _ h => h) rfl dX2_counted_67 ?_
    exact z_iret hx hb hr hlocks hK hS () (by (repeat (first | with_reducible rfl | rw [if_pos (by omega)] | rw [if_neg (by omega)]))) hP hD dX2_counted_70
  by_cases sw_1_3 : k = 3
  · refine lv_tableIn (off := 70) (tgt := 71) hx hb dX2_counted_1 (by rw [toInt_iI ⟨by omega, by omega⟩]; omega) (by rw [toInt_iI ⟨by omega, by omega⟩]; omega) (by rw [toInt_iI ⟨by omega, by omega⟩, sw_1_3]; rfl) (by decide) ?_
    refine lv_aload_n hx hb dX2_counted_71 rfl (lv_at hl 0 rfl) ?_
    refine z_callV0 (ci := 2) (qk := 0) (As := []) (rest := []) hx hb hml hown hts hK hA hl.1 hP hD hS (c_X2_countThere l E q jb jr lf jf rd vr G   (by first | omega | exact hx3 | exact hx3 _ (by omega) (by omega) | exact ⟨by omega, by omega⟩ | exact hsi)) gX2_counted_X2_countThere rfl ndX2_countThere ⟨Nat.le_of_ble_eq_true rfl, Nat.le_of_ble_eq_true rfl⟩ rfl rfl rfl rfl rfl (Nat.le_of_ble_eq_true rfl) dX2_counted_72 ⟨Nat.le_of_ble_eq_true rfl, Nat.le_of_ble_eq_true rfl⟩ (fun x u H locs hpost hP hD hS => ?_)
    subst hpost
    have hP : va_P E.1 vwCl (wSt E q jb jr lf jf rd vr G) H := hP
    have hD : va_D A (wSt E q jb jr lf jf rd vr G) := hD
    exact z_iret hx hb hr hlocks hK hS () (by (repeat (first | with_reducible rfl | rw [if_pos (by omega)] | rw [if_neg (by omega)]))) hP hD dX2_counted_75
  by_cases sw_1_4 : k = 4
  · refine lv_tableIn (off := 75) (tgt := 76) hx hb dX2_counted_1 (by rw [toInt_iI ⟨by omega, by omega⟩]; omega) (by rw [toInt_iI ⟨by omega, by omega⟩]; omega) (by rw [toInt_iI ⟨by omega, by omega⟩, sw_1_4]; rfl) (by decide) ?_
    refine lv_aload_n hx hb dX2_counted_76 rfl (lv_at hl 0 rfl) ?_
    refine z_callV0 (ci := 2) (qk := 0) (As := []) (rest := []) hx hb hml hown hts hK hA hl.1 hP hD hS (c_X2_countHoles l E q jb jr lf jf rd vr G   (by first | omega | exact hx3 | exact hx3 _ (by omega) (by omega) | exact ⟨by omega, by omega⟩ | exact hsi)) gX2_counted_X2_countHoles rfl ndX2_countHoles ⟨Nat.le_of_ble_eq_true rfl, Nat.le_of_ble_eq_true rfl⟩ rfl rfl rfl rfl rfl (Nat.le_of_ble_eq_true rfl) dX2_counted_77 ⟨Nat.le_of_ble_eq_true rfl, Nat.le_of_ble_eq_true rfl⟩ (fun x u H locs hpost hP hD hS => ?_)
    subst hpost
    have hP : va_P E.1 vwCl (wSt E q jb jr lf jf rd vr G) H := hP
    have hD : va_D A (wSt E q jb jr lf jf rd vr G) := hD
    exact z_iret hx hb hr hlocks hK hS () (by (repeat (first | with_reducible rfl | rw [if_pos (by omega)] | rw [if_neg (by omega)]))) hP hD dX2_counted_80
  by_cases sw_1_5 : k = 5
  · refine lv_tableIn (off := 80) (tgt := 81) hx hb dX2_counted_1 (by rw [toInt_iI ⟨by omega, by omega⟩]; omega) (by rw [toInt_iI ⟨by omega, by omega⟩]; omega) (by rw [toInt_iI ⟨by omega, by omega⟩, sw_1_5]; rfl) (by decide) ?_
    refine lv_aload_n hx hb dX2_counted_81 rfl (lv_at hl 0 rfl) ?_
    refine va_get (D := E.1) (cl := vwCl) (ci := 2) (v := .int (iI rd)) (C := RX2) (T := TX2) (N := 7) hx hb hts hinX2 hown hK hP 0 rfl rfl 5 (by decide) hf_31 (fun _ h => h) rfl dX2_counted_82 ?_
    exact z_iret hx hb hr hlocks hK hS () (by (repeat (first | with_reducible rfl | rw [if_pos (by omega)] | rw [if_neg (by omega)]))) hP hD dX2_counted_85
  by_cases sw_1_6 : k = 6
  · refine lv_tableIn (off := 85) (tgt := 86) hx hb dX2_counted_1 (by rw [toInt_iI ⟨by omega, by omega⟩]; omega) (by rw [toInt_iI ⟨by omega, by omega⟩]; omega) (by rw [toInt_iI ⟨by omega, by omega⟩, sw_1_6]; rfl) (by decide) ?_
    refine lv_aload_n hx hb dX2_counted_86 rfl (lv_at hl 0 rfl) ?_
    refine va_get (D := E.1) (cl := vwCl) (ci := 2) (v := .int (iI vr)) (C := RX2) (T := TX2) (N := 7) hx hb hts hinX2 hown hK hP 0 rfl rfl 6 (by decide) hf_34 (fun _ h => h) rfl dX2_counted_87 ?_
    exact z_iret hx hb hr hlocks hK hS () (by (repeat (first | with_reducible rfl | rw [if_pos (by omega)] | rw [if_neg (by omega)]))) hP hD dX2_counted_90
  by_cases sw_1_7 : k = 7
  · refine lv_tableIn (off := 90) (tgt := 91) hx hb dX2_counted_1 (by rw [toInt_iI ⟨by omega, by omega⟩]; omega) (by rw [toInt_iI ⟨by omega, by omega⟩]; omega) (by rw [toInt_iI ⟨by omega, by omega⟩, sw_1_7]; rfl) (by decide) ?_
    refine lv_aload_n hx hb dX2_counted_91 rfl (lv_at hl 0 rfl) ?_
    refine z_callV0 (ci := 2) (qk := 0) (As := []) (rest := []) hx hb hml hown hts hK hA hl.1 hP hD hS (c_X2_countMadeByJob l E q jb jr lf jf rd vr G   (by first | omega | exact hx3 | exact hx3 _ (by omega) (by omega) | exact ⟨by omega, by omega⟩ | exact hsi) (by first | omega | exact hx3 | exact hx3 _ (by omega) (by omega) | exact ⟨by omega, by omega⟩ | exact hsi)) gX2_counted_X2_countMadeByJob rfl ndX2_countMadeByJob ⟨Nat.le_of_ble_eq_true rfl, Nat.le_of_ble_eq_true rfl⟩ rfl rfl rfl rfl rfl (Nat.le_of_ble_eq_true rfl) dX2_counted_92 ⟨Nat.le_of_ble_eq_true rfl, Nat.le_of_ble_eq_true rfl⟩ (fun x u H locs hpost hP hD hS => ?_)
    subst hpost
    have hP : va_P E.1 vwCl (wSt E q jb jr lf jf rd vr G) H := hP
    have hD : va_D A (wSt E q jb jr lf jf rd vr G) := hD
    exact z_iret hx hb hr hlocks hK hS () (by (repeat (first | with_reducible rfl | rw [if_pos (by omega)] | rw [if_neg (by omega)]))) hP hD dX2_counted_95
  refine lv_tableOut (tgt := 96) hx hb dX2_counted_1 (by rw [toInt_iI ⟨by omega, by omega⟩]; omega) (by decide) ?_
  refine lv_bipush (v := iI (-2)) hx hb dX2_counted_96 (by decide) ?_
  exact z_iret hx hb hr hlocks hK hS () (by (repeat (first | with_reducible rfl | rw [if_pos (by omega)] | rw [if_neg (by omega)]))) hP hD dX2_counted_98

theorem ndX2_isSo : yX2_isSo.cls = RX2 ∧ yX2_isSo.cls ≠ "java/lang/invoke/MethodHandle" ∧ yX2_isSo.cls ≠ "java/lang/invoke/VarHandle" ∧ (parseMethodDescriptor yX2_isSo.desc).map (fun d => d.parameters.length) = some 2 := by decide +kernel
set_option maxRecDepth 100000 in
set_option maxHeartbeats 1000000 in
theorem c_X2_isSo (l : Launch) (E : zE) (q : Nat → Nat) (g : Int) (R : va_W) (jb jr lf jf rd vr : Int) (ke ne si ro de nj mj : Int) (da re jo : Int → Int) (k : Int) (h0 : jr = 0 ∨ jr = 1) (h1 : rg k) (h2 : 0 ≤ ne ∧ ne ≤ 1900000000) (h3 : 0 ≤ si ∧ si ≤ 8) (h4 : DGr da) (h5 : 0 ≤ nj ∧ nj ≤ 1900000000) (h6 : 0 ≤ mj ∧ mj ≤ 1900000000) : zF l E yX2_isSo wsX2_isSo 2 43 [.ref (q 0), .ref (gq q g 0), .int (iI k)] (wF E q g R jb jr lf jf rd vr ke ne si ro de nj mj da re jo) (zb (soP jr k ne si nj mj da)) (wF E q g R jb jr lf jf rd vr ke ne si ro de nj mj da re jo) := by
  have hx3 := h4
  have hch := cHo_rg (ne := ne) (si := si) (da := da) (by omega)
  have hso := sOf_rg (ne := ne) (nj := nj) (mj := mj) (n := 0) (b := jr) (by omega) (by omega) (by omega) (by omega)
  refine zC_of (cc := cX2_isSo) (maxL := 3) (by decide) rfl (Nat.le_of_ble_eq_true rfl) ?_
  intro p e s m below meth c ls A hx hb hr hts hown hlocks hml hK hA hS hP hD hl
  have hown : s.vm.findClass RX2 = some m.cls := hown
  have hl : lv_has ls 3 [(0, .ref (q 0)), (1, .ref (gq q g 0)), (2, .int (iI k))] := hl
  have hinX0 : ∀ v ∈ u_ws RX0 TX0 10, v ∈ wsX2_isSo := by decide +kernel
  have hinX2 : ∀ v ∈ u_ws RX2 TX2 7, v ∈ wsX2_isSo := by decide +kernel
  have hf_100 := hts (.fieldLink RX2 100 "GenerationNames$Group" "size" "I") (by decide +kernel)
  have hf_21 := hts (.fieldLink RX2 21 "GenerationNames$State" "jobRuns" "Z") (by decide +kernel)
  refine lv_iload_n hx hb dX2_isSo_0 rfl (lv_at hl 2 rfl) ?_
  by_cases sw_1_0 : k = 0
  · refine lv_lookup (off := 27) (tgt := 28) hx hb dX2_isSo_1 (by decide) (by rw [toInt_iI ⟨by omega, by omega⟩, sw_1_0]; rfl) (by decide) ?_
    refine lv_aload_n hx hb dX2_isSo_28 rfl (lv_at hl 1 rfl) ?_
    refine z_callM (w0 := wS2 E q jb jr lf jf rd vr) (ci := 0) (qk := 0) (As := []) (rest := []) hx hb hml hown hts hK hA hl.1 hP hD hS (c_X0_countHoles l E (gq q g) da re jo ke ne si ro de nj mj   (by first | omega | exact hx3 | exact hx3 _ (by omega) (by omega) | exact ⟨by omega, by omega⟩) (by first | omega | exact hx3 | exact hx3 _ (by omega) (by omega) | exact ⟨by omega, by omega⟩) (by first | omega | exact hx3 | exact hx3 _ (by omega) (by omega) | exact ⟨by omega, by omega⟩)) gX2_isSo_X0_countHoles rfl ndX0_countHoles ⟨Nat.le_of_ble_eq_true rfl, Nat.le_of_ble_eq_true rfl⟩ rfl rfl rfl rfl rfl (Nat.le_of_ble_eq_true rfl) dX2_isSo_29 ⟨Nat.le_of_ble_eq_true rfl, Nat.le_of_ble_eq_true rfl⟩ (fun x u H locs hpost hP hD hS => ?_)
    subst hpost
    have hP : va_P E.1 vwCl (wF E q g R jb jr lf jf rd vr ke ne si ro de nj mj da re jo) H := hP
    have hD : va_D A (wF E q g R jb jr lf jf rd vr ke ne si ro de nj mj da re jo) := hD
    refine z_if_le (tgt := 39) hx hb dX2_isSo_32 (by decide) ⟨by omega, by omega⟩ (fun c_32 => ?_) (fun c_32 => ?_)
    · refine lv_iconst (v := iI 0) hx hb dX2_isSo_39 (by decide) ?_
      exact z_zret hx hb hr hlocks hK hS (Or.inl rfl) () (by first | exact zb_t' (by omega) | exact zb_f' (by omega)) hP hD dX2_isSo_40
    · refine lv_iconst (v := iI 1) hx hb dX2_isSo_35 (by decide) ?_
      refine lv_goto (tgt := 40) hx hb dX2_isSo_36 (by decide) ?_
      exact z_zret hx hb hr hlocks hK hS (Or.inr rfl) () (by first | exact zb_t' (by omega) | exact zb_f' (by omega)) hP hD dX2_isSo_40
  by_cases sw_1_1 : k = 1
  · refine lv_lookup (off := 40) (tgt := 41) hx hb dX2_isSo_1 (by decide) (by rw [toInt_iI ⟨by omega, by omega⟩, sw_1_1]; rfl) (by decide) ?_
    refine lv_aload_n hx hb dX2_isSo_41 rfl (lv_at hl 0 rfl) ?_
    refine lv_aload_n hx hb dX2_isSo_42 rfl (lv_at hl 1 rfl) ?_
    refine z_callV0 (ci := 2) (qk := 0) (As := [.ref (gq q g 0)]) (rest := []) hx hb hml hown hts hK hA hl.1 hP hD hS (c_X2_hasNewestOfJob l E q g R jb jr lf jf rd vr ke ne si ro de nj mj da re jo   (by first | omega | exact hx3 | exact hx3 _ (by omega) (by omega) | exact ⟨by omega, by omega⟩) (by first | omega | exact hx3 | exact hx3 _ (by omega) (by omega) | exact ⟨by omega, by omega⟩)) gX2_isSo_X2_hasNewestOfJob rfl ndX2_hasNewestOfJob ⟨Nat.le_of_ble_eq_true rfl, Nat.le_of_ble_eq_true rfl⟩ rfl rfl rfl rfl rfl (Nat.le_of_ble_eq_true rfl) dX2_isSo_43 ⟨Nat.le_of_ble_eq_true rfl, Nat.le_of_ble_eq_true rfl⟩ (fun x u H locs hpost hP hD hS => ?_)
    subst hpost
    have hP : va_P E.1 vwCl (wF E q g R jb jr lf jf rd vr ke ne si ro de nj mj da re jo) H := hP
    have hD : va_D A (wF E q g R jb jr lf jf rd vr ke ne si ro de nj mj da re jo) := hD
    refine z_ifb_eq (tgt := 60) hx hb dX2_isSo_46 (by decide) (fun c_46 => ?_) (fun c_46 => ?_)
    · refine lv_iconst (v := iI 0) hx hb dX2_isSo_60 (by decide) ?_
      exact z_zret hx hb hr hlocks hK hS (Or.inl rfl) () (by first | exact zb_t' (by omega) | exact zb_f' (by omega)) hP hD dX2_isSo_61
    · refine lv_aload_n hx hb dX2_isSo_49 rfl (lv_at hl 1 rfl) ?_
      refine va_get (D := E.1) (cl := vwCl) (ci := 0) (v := .int (iI si)) (C := RX0) (T := TX0) (N := 10) hx hb hts hinX0 hown hK hP 2 rfl rfl 2 (by decide) hf_100 (fun _ h => h) rfl dX2_isSo_50 ?_
      refine z_if_le (tgt := 60) hx hb dX2_isSo_53 (by decide) ⟨by omega, by omega⟩ (fun c_53 => ?_) (fun c_53 => ?_)
      · refine lv_iconst (v := iI 0) hx hb dX2_isSo_60 (by decide) ?_
        exact z_zret hx hb hr hlocks hK hS (Or.inl rfl) () (by first | exact zb_t' (by omega) | exact zb_f' (by omega)) hP hD dX2_isSo_61
      · refine lv_iconst (v := iI 1) hx hb dX2_isSo_56 (by decide) ?_
        refine lv_goto (tgt := 61) hx hb dX2_isSo_57 (by decide) ?_
        exact z_zret hx hb hr hlocks hK hS (Or.inr rfl) () (by first | exact zb_t' (by omega) | exact zb_f' (by omega)) hP hD dX2_isSo_61
  refine lv_lookup (off := 61) (tgt := 62) hx hb dX2_isSo_1 (by decide) (by rw [toInt_iI ⟨by omega, by omega⟩]; show (if (0 : Int) = k then (27 : Int) else if (1 : Int) = k then (40 : Int) else (61 : Int)) = (61 : Int); rw [if_neg (by omega), if_neg (by omega)]) (by decide) ?_
  refine lv_aload_n hx hb dX2_isSo_62 rfl (lv_at hl 1 rfl) ?_
  refine lv_aload_n hx hb dX2_isSo_63 rfl (lv_at hl 1 rfl) ?_
  refine lv_iconst (v := iI 0) hx hb dX2_isSo_64 (by decide) ?_
  refine lv_aload_n hx hb dX2_isSo_65 rfl (lv_at hl 0 rfl) ?_
  refine va_get (D := E.1) (cl := vwCl) (ci := 2) (v := .int (iI jr)) (C := RX2) (T := TX2) (N := 7) hx hb hts hinX2 hown hK hP 0 rfl rfl 2 (by decide) hf_21 (fun _ h => h) rfl dX2_isSo_66 ?_
  refine z_callM (w0 := wS2 E q jb jr lf jf rd vr) (ci := 0) (qk := 0) (As := [.int (iI 0), .int (iI jr)]) (rest := [.ref (gq q g 0)]) hx hb hml hown hts hK hA hl.1 hP hD hS (c_X0_serialOf l E (gq q g) da re jo ke ne si ro de nj mj 0 jr  (by first | omega | exact hx3 | exact hx3 _ (by omega) (by omega) | exact ⟨by omega, by omega⟩) (by first | omega | exact hx3 | exact hx3 _ (by omega) (by omega) | exact ⟨by omega, by omega⟩)) gX2_isSo_X0_serialOf rfl ndX0_serialOf ⟨Nat.le_of_ble_eq_true rfl, Nat.le_of_ble_eq_true rfl⟩ rfl rfl rfl rfl rfl (Nat.le_of_ble_eq_true rfl) dX2_isSo_69 ⟨Nat.le_of_ble_eq_true rfl, Nat.le_of_ble_eq_true rfl⟩ (fun x u H locs hpost hP hD hS => ?_)
  subst hpost
  have hP : va_P E.1 vwCl (wF E q g R jb jr lf jf rd vr ke ne si ro de nj mj da re jo) H := hP
  have hD : va_D A (wF E q g R jb jr lf jf rd vr ke ne si ro de nj mj da re jo) := hD
  refine z_callM (w0 := wS2 E q jb jr lf jf rd vr) (ci := 0) (qk := 0) (As := [.int (iI (sOf ne nj mj 0 jr))]) (rest := []) hx hb hml hown hts hK hA hl.1 hP hD hS (c_X0_isThere l E (gq q g) da re jo ke ne si ro de nj mj (sOf ne nj mj 0 jr)  (by first | omega | exact hx3 | exact hx3 _ (by omega) (by omega) | exact ⟨by omega, by omega⟩) (by first | omega | exact hx3 | exact hx3 _ (by omega) (by omega) | exact ⟨by omega, by omega⟩) (by first | omega | exact hx3 | exact hx3 _ (by omega) (by omega) | exact ⟨by omega, by omega⟩) (by first | omega | exact hx3 | exact hx3 _ (by omega) (by omega) | exact ⟨by omega, by omega⟩)) gX2_isSo_X0_isThere rfl ndX0_isThere ⟨Nat.le_of_ble_eq_true rfl, Nat.le_of_ble_eq_true rfl⟩ rfl rfl rfl rfl rfl (Nat.le_of_ble_eq_true rfl) dX2_isSo_72 ⟨Nat.le_of_ble_eq_true rfl, Nat.le_of_ble_eq_true rfl⟩ (fun x u H locs hpost hP hD hS => ?_)
  subst hpost
  have hP : va_P E.1 vwCl (wF E q g R jb jr lf jf rd vr ke ne si ro de nj mj da re jo) H := hP
  have hD : va_D A (wF E q g R jb jr lf jf rd vr ke ne si ro de nj mj da re jo) := hD
  refine z_ifb_ne (tgt := 82) hx hb dX2_isSo_75 (by decide) (fun c_75 => ?_) (fun c_75 => ?_)
  · refine lv_iconst (v := iI 0) hx hb dX2_isSo_82 (by decide) ?_
    exact z_zret hx hb hr hlocks hK hS (Or.inl rfl) () (by first | exact zb_t' (by omega) | exact zb_f' (by omega)) hP hD dX2_isSo_83
  · refine lv_iconst (v := iI 1) hx hb dX2_isSo_78 (by decide) ?_
    refine lv_goto (tgt := 83) hx hb dX2_isSo_79 (by decide) ?_
    exact z_zret hx hb hr hlocks hK hS (Or.inr rfl) () (by first | exact zb_t' (by omega) | exact zb_f' (by omega)) hP hD dX2_isSo_83

theorem ndX2_groupsThatAre : yX2_groupsThatAre.cls = RX2 ∧ yX2_groupsThatAre.cls ≠ "java/lang/invoke/MethodHandle" ∧ yX2_groupsThatAre.cls ≠ "java/lang/invoke/VarHandle" ∧ (parseMethodDescriptor yX2_groupsThatAre.desc).map (fun d => d.parameters.length) = some 1 := by decide +kernel
set_option maxRecDepth 100000 in
set_option maxHeartbeats 1000000 in
theorem c_X2_groupsThatAre (l : Launch) (E : zE) (q : Nat → Nat) (jb jr lf jf rd vr : Int) (G : Int → zGr) (k : Int) (h0 : rg k) (h1 : SI G) (h2 : jr = 0 ∨ jr = 1) : zF l E yX2_groupsThatAre wsX2_groupsThatAre 3 65 [.ref (q 0), .int (iI k)] (wSt E q jb jr lf jf rd vr G) (if ¬ (0 ≤ k ∧ k ≤ 2) then -2 else sSet jr G k) (wSt E q jb jr lf jf rd vr G) := by
  have hsi := h1
  refine zC_of (cc := cX2_groupsThatAre) (maxL := 4) (by decide) rfl (Nat.le_of_ble_eq_true rfl) ?_
  intro p e s m below meth c ls A hx hb hr hts hown hlocks hml hK hA hS hP hD hl
  have hown : s.vm.findClass RX2 = some m.cls := hown
  have hl : lv_has ls 4 [(0, .ref (q 0)), (1, .int (iI k))] := hl
  have hinX2 : ∀ v ∈ u_ws RX2 TX2 7, v ∈ wsX2_groupsThatAre := by decide +kernel
  have hf_11 := hts (.fieldLink RX2 11 "GenerationNames$State" "groups" "[LGenerationNames$Group;") (by decide +kernel)
  refine lv_iload_n hx hb dX2_groupsThatAre_0 rfl (lv_at hl 1 rfl) ?_
  refine z_if_lt (tgt := 9) hx hb dX2_groupsThatAre_1 (by decide) ⟨by omega, by omega⟩ (fun c_1 => ?_) (fun c_1 => ?_)
  · refine lv_bipush (v := iI (-2)) hx hb dX2_groupsThatAre_9 (by decide) ?_
    exact z_iret hx hb hr hlocks hK hS () (by first | rw [if_pos (by omega)] | (rw [if_neg (by omega), hi16_0, show i1 = 6 by omega]; rfl)) hP hD dX2_groupsThatAre_11
  · refine lv_iload_n hx hb dX2_groupsThatAre_4 rfl (lv_at hl 1 rfl) ?_
    refine lv_iconst (v := iI 2) hx hb dX2_groupsThatAre_5 (by decide) ?_
    refine z_icmp_le (tgt := 12) hx hb dX2_groupsThatAre_6 (by decide) ⟨by omega, by omega⟩ ⟨by omega, by omega⟩ (fun c_6 => ?_) (fun c_6 => ?_)
    · refine lv_iconst (v := iI 0) hx hb dX2_groupsThatAre_12 (by decide) ?_
      refine lv_istore_n (lv' := [(2, .int (iI 0)), (0, .ref (q 0)), (1, .int (iI k))]) hx hb dX2_groupsThatAre_13 rfl hl (by decide) rfl (fun ls hl => ?_)
      refine lv_iconst (v := iI 0) hx hb dX2_groupsThatAre_14 (by decide) ?_
      refine lv_istore_n (lv' := [(3, .int (iI 0)), (2, .int (iI 0)), (0, .ref (q 0)), (1, .int (iI k))]) hx hb dX2_groupsThatAre_15 rfl hl (by decide) rfl (fun ls hl => ?_)
      have hloop16 : ∀ (n : Nat) (n1 : Int) (i1 : Int) (hmu : 6 - i1 = (n : Int)) (hi16_0 : n1 = itr (fun g n => n + (if soP jr k (G g 0 1) (G g 0 2) (G g 0 5) (G g 0 6) (G g 1) then 2 ^ g.toNat else 0)) 0 (i1).toNat) (hi16_1 : 0 ≤ i1 ∧ i1 ≤ 6) (hi16_2 : 0 ≤ n1 ∧ n1 < 2 ^ (i1).toNat) (H : Heap) (locs : List Loc) (ls : Array Slot), va_P E.1 vwCl (wSt E q jb jr lf jf rd vr G) H → va_D A (wSt E q jb jr lf jf rd vr G) → va_S A s.heap H locs → lv_has ls 4 [(3, .int (iI i1)), (2, .int (iI n1)), (0, .ref (q 0)), (1, .int (iI k))] → W p l e (zR 3 65) s m ([.ref (q 0), .int (iI k)] : List Value).toArray below meth c H locs 0 0 (MQ below (zQ E A (S := Unit) (fun x _ => x = (if ¬ (0 ≤ k ∧ k ≤ 2) then -2 else sSet jr G k)) (fun _ => wSt E q jb jr lf jf rd vr G)) ([.ref (q 0), .int (iI k)] : List Value).toArray s 0 0 A) (F0 m 16 ls []) := by
        intro n
        induction n using Nat.strongRecOn with
        | ind n ih16 =>
          intro n1 i1 hmu16 hi16_0 hi16_1 hi16_2 H locs ls hP hD hS hl
          refine lv_iload_n hx hb dX2_groupsThatAre_16 rfl (lv_at hl 0 rfl) ?_
          refine lv_bipush (v := iI 6) hx hb dX2_groupsThatAre_17 (by decide) ?_
          refine z_icmp_ge (tgt := 48) hx hb dX2_groupsThatAre_19 (by decide) ⟨by omega, by omega⟩ ⟨by omega, by omega⟩ (fun c_19 => ?_) (fun c_19 => ?_)
          · refine lv_iload_n hx hb dX2_groupsThatAre_48 rfl (lv_at hl 1 rfl) ?_
            exact z_iret hx hb hr hlocks hK hS () (by first | rw [if_pos (by omega)] | (rw [if_neg (by omega), hi16_0, show i1 = 6 by omega]; rfl)) hP hD dX2_groupsThatAre_49
          · refine lv_aload_n hx hb dX2_groupsThatAre_22 rfl (lv_at hl 2 rfl) ?_
            refine lv_aload_n hx hb dX2_groupsThatAre_23 rfl (lv_at hl 2 rfl) ?_
            refine va_get (D := E.1) (cl := vwCl) (ci := 2) (v := .ref (q 1)) (C := RX2) (T := TX2) (N := 7) hx hb hts hinX2 hown hK hP 0 rfl rfl 0 (by decide) hf_11 (fun _ h => h) rfl dX2_groupsThatAre_24 ?_
            refine lv_iload_n hx hb dX2_groupsThatAre_27 rfl (lv_at hl 0 rfl) ?_
            refine z_aald (D := E.1) (cl := vwCl) (tys := zT E) (f := fun j : Nat => q (2 + 4 * j)) hx hb hK hP 1 3 rfl rfl (by omega) (by omega) (by omega) dX2_groupsThatAre_28 ?_
            refine W.eq (g2 := F0 m 29 ls [.ref (gq q i1 0), .ref (q 0)]) rfl ?_
            have hP := zP_perm hP (wS_perm (g := i1) (by omega))
            have hD := zD_perm hD (wS_perm (g := i1) (by omega))
            obtain ⟨hx1, hx2, hx3, hx4, hx5, hx6⟩ := hsi i1 (by omega) (by omega)
            have hP : va_P E.1 vwCl (wF E q i1 (wR E q G i1) jb jr lf jf rd vr (G i1 0 0) (G i1 0 1) (G i1 0 2) (G i1 0 3) (G i1 0 4) (G i1 0 5) (G i1 0 6) (G i1 1) (G i1 2) (G i1 3)) H := hP
            have hD : va_D A (wF E q i1 (wR E q G i1) jb jr lf jf rd vr (G i1 0 0) (G i1 0 1) (G i1 0 2) (G i1 0 3) (G i1 0 4) (G i1 0 5) (G i1 0 6) (G i1 1) (G i1 2) (G i1 3)) := hD
            refine lv_iload_n hx hb dX2_groupsThatAre_29 rfl (lv_at hl 3 rfl) ?_
            refine z_callV0 (ci := 2) (qk := 0) (As := [.ref (gq q i1 0), .int (iI k)]) (rest := []) hx hb hml hown hts hK hA hl.1 hP hD hS (c_X2_isSo l E q i1 (wR E q G i1) jb jr lf jf rd vr (G i1 0 0) (G i1 0 1) (G i1 0 2) (G i1 0 3) (G i1 0 4) (G i1 0 5) (G i1 0 6) (G i1 1) (G i1 2) (G i1 3) k  (by first | omega | exact hx3 | exact hx3 _ (by omega) (by omega) | exact ⟨by omega, by omega⟩) (by first | omega | exact hx3 | exact hx3 _ (by omega) (by omega) | exact ⟨by omega, by omega⟩) (by first | omega | exact hx3 | exact hx3 _ (by omega) (by omega) | exact ⟨by omega, by omega⟩) (by first | omega | exact hx3 | exact hx3 _ (by omega) (by omega) | exact ⟨by omega, by omega⟩) (by first | omega | exact hx3 | exact hx3 _ (by omega) (by omega) | exact ⟨by omega, by omega⟩) (by first | omega | exact hx3 | exact hx3 _ (by omega) (by omega) | exact ⟨by omega, by omega⟩) (by first | omega | exact hx3 | exact hx3 _ (by omega) (by omega) | exact ⟨by omega, by omega⟩)) gX2_groupsThatAre_X2_isSo rfl ndX2_isSo ⟨Nat.le_of_ble_eq_true rfl, Nat.le_of_ble_eq_true rfl⟩ rfl rfl rfl rfl rfl (Nat.le_of_ble_eq_true rfl) dX2_groupsThatAre_30 ⟨Nat.le_of_ble_eq_true rfl, Nat.le_of_ble_eq_true rfl⟩ (fun x u H locs hpost hP hD hS => ?_)
            subst hpost
            have hP : va_P E.1 vwCl (wF E q i1 (wR E q G i1) jb jr lf jf rd vr (G i1 0 0) (G i1 0 1) (G i1 0 2) (G i1 0 3) (G i1 0 4) (G i1 0 5) (G i1 0 6) (G i1 1) (G i1 2) (G i1 3)) H := hP
            have hD : va_D A (wF E q i1 (wR E q G i1) jb jr lf jf rd vr (G i1 0 0) (G i1 0 1) (G i1 0 2) (G i1 0 3) (G i1 0 4) (G i1 0 5) (G i1 0 6) (G i1 1) (G i1 2) (G i1 3)) := hD
            refine z_ifb_eq (tgt := 42) hx hb dX2_groupsThatAre_33 (by decide) (fun c_33 => ?_) (fun c_33 => ?_)
            · refine lv_iinc (v := iI (i1 + 1)) (lv' := [(3, .int (iI (i1 + 1))), (2, .int (iI n1)), (0, .ref (q 0)), (1, .int (iI k))]) hx hb dX2_groupsThatAre_42 hl (k := 0) rfl (iI_add _ _) (by decide) rfl (fun ls hl => ?_)
              refine lv_goto (tgt := 16) hx hb dX2_groupsThatAre_45 (by decide) ?_
              have hP : va_P E.1 vwCl (wSt E q jb jr lf jf rd vr G) H := zP_perm hP (wS_perm (g := i1) (by omega)).symm
              have hD : va_D A (wSt E q jb jr lf jf rd vr G) := zD_perm hD (wS_perm (g := i1) (by omega)).symm
              exact ih16 (6 - (i1 + 1) : Int).toNat (by omega) n1 (i1 + 1) (by omega) (by rw [itr_step (by omega), ← hi16_0]; first | rw [if_pos c_33] | rw [if_neg c_33, Int.add_zero]) (by omega) (by rw [show (i1 + 1).toNat = i1.toNat + 1 by omega, Int.pow_succ]; omega) _ _ ls hP hD hS (lv_sub hl [0, 1, 2, 3] rfl)
            · refine lv_iload_n hx hb dX2_groupsThatAre_36 rfl (lv_at hl 1 rfl) ?_
              refine lv_iconst (v := iI 1) hx hb dX2_groupsThatAre_37 (by decide) ?_
              refine lv_iload_n hx hb dX2_groupsThatAre_38 rfl (lv_at hl 0 rfl) ?_
              refine lv_ishl hx hb dX2_groupsThatAre_39 ?_
              rw [sh1 (by omega) (by omega)]
              refine lv_ior hx hb dX2_groupsThatAre_40 ?_
              rw [ior_p (by omega) (by omega) (hi16_2)]
              refine lv_istore_n (lv' := [(2, .int (iI (n1 + (2 ^ (i1).toNat)))), (3, .int (iI i1)), (0, .ref (q 0)), (1, .int (iI k))]) hx hb dX2_groupsThatAre_41 rfl hl (by decide) rfl (fun ls hl => ?_)
              refine lv_iinc (v := iI (i1 + 1)) (lv' := [(3, .int (iI (i1 + 1))), (2, .int (iI (n1 + (2 ^ (i1).toNat)))), (0, .ref (q 0)), (1, .int (iI k))]) hx hb dX2_groupsThatAre_42 hl (k := 1) rfl (iI_add _ _) (by decide) rfl (fun ls hl => ?_)
              refine lv_goto (tgt := 16) hx hb dX2_groupsThatAre_45 (by decide) ?_
              have hP : va_P E.1 vwCl (wSt E q jb jr lf jf rd vr G) H := zP_perm hP (wS_perm (g := i1) (by omega)).symm
              have hD : va_D A (wSt E q jb jr lf jf rd vr G) := zD_perm hD (wS_perm (g := i1) (by omega)).symm
              exact ih16 (6 - (i1 + 1) : Int).toNat (by omega) (n1 + (2 ^ (i1).toNat)) (i1 + 1) (by omega) (by rw [itr_step (by omega), ← hi16_0]; first | rw [if_pos c_33] | rw [if_neg c_33, Int.add_zero]) (by omega) (by rw [show (i1 + 1).toNat = i1.toNat + 1 by omega, Int.pow_succ]; omega) _ _ ls hP hD hS (lv_sub hl [0, 1, 2, 3] rfl)
      exact hloop16 (6 - 0 : Int).toNat 0 0 (by omega) (rfl) (by omega) (by decide) _ _ ls hP hD hS (lv_sub hl [0, 1, 2, 3] rfl)
    · refine lv_bipush (v := iI (-2)) hx hb dX2_groupsThatAre_9 (by decide) ?_
      exact z_iret hx hb hr hlocks hK hS () (by first | rw [if_pos (by omega)] | (rw [if_neg (by omega), hi16_0, show i1 = 6 by omega]; rfl)) hP hD dX2_groupsThatAre_11

theorem ndX2_numberThatRolls : yX2_numberThatRolls.cls = RX2 ∧ yX2_numberThatRolls.cls ≠ "java/lang/invoke/MethodHandle" ∧ yX2_numberThatRolls.cls ≠ "java/lang/invoke/VarHandle" ∧ (parseMethodDescriptor yX2_numberThatRolls.desc).map (fun d => d.parameters.length) = some 1 := by decide +kernel
set_option maxRecDepth 100000 in
set_option maxHeartbeats 1000000 in
theorem c_X2_numberThatRolls (l : Launch) (E : zE) (q : Nat → Nat) (jb jr lf jf rd vr : Int) (G : Int → zGr) (gr : Int) (h0 : rg gr) (h1 : SI G) : zF l E yX2_numberThatRolls wsX2_numberThatRolls 3 63 [.ref (q 0), .int (iI gr)] (wSt E q jb jr lf jf rd vr G) (if ¬ (0 ≤ gr ∧ gr ≤ 5) then -1 else if G gr 0 0 ≤ G gr 0 2 then nIT (G gr 0 1) (G gr 0 2) (G gr 1) (G gr 0 1 - G gr 0 2 + 1) else -6) (wSt E q jb jr lf jf rd vr G) := by
  have hsi := h1
  refine zC_of (cc := cX2_numberThatRolls) (maxL := 3) (by decide) rfl (Nat.le_of_ble_eq_true rfl) ?_
  intro p e s m below meth c ls A hx hb hr hts hown hlocks hml hK hA hS hP hD hl
  have hown : s.vm.findClass RX2 = some m.cls := hown
  have hl : lv_has ls 3 [(0, .ref (q 0)), (1, .int (iI gr))] := hl
  have hinX2 : ∀ v ∈ u_ws RX2 TX2 7, v ∈ wsX2_numberThatRolls := by decide +kernel
  have hinX0 : ∀ v ∈ u_ws RX0 TX0 10, v ∈ wsX2_numberThatRolls := by decide +kernel
  have hf_11 := hts (.fieldLink RX2 11 "GenerationNames$State" "groups" "[LGenerationNames$Group;") (by decide +kernel)
  have hf_100 := hts (.fieldLink RX2 100 "GenerationNames$Group" "size" "I") (by decide +kernel)
  have hf_46 := hts (.fieldLink RX2 46 "GenerationNames$Group" "keep" "I") (by decide +kernel)
  refine lv_aload_n hx hb dX2_numberThatRolls_0 rfl (lv_at hl 0 rfl) ?_
  refine lv_iload_n hx hb dX2_numberThatRolls_1 rfl (lv_at hl 1 rfl) ?_
  refine z_callV0 (ci := 2) (qk := 0) (As := [.int (iI gr)]) (rest := []) hx hb hml hown hts hK hA hl.1 hP hD hS (c_X2_isGroup l E q jb jr lf jf rd vr G gr  (by first | omega | exact hx3 | exact hx3 _ (by omega) (by omega) | exact ⟨by omega, by omega⟩)) gX2_numberThatRolls_X2_isGroup rfl ndX2_isGroup ⟨Nat.le_of_ble_eq_true rfl, Nat.le_of_ble_eq_true rfl⟩ rfl rfl rfl rfl rfl (Nat.le_of_ble_eq_true rfl) dX2_numberThatRolls_2 ⟨Nat.le_of_ble_eq_true rfl, Nat.le_of_ble_eq_true rfl⟩ (fun x u H locs hpost hP hD hS => ?_)
  subst hpost
  have hP : va_P E.1 vwCl (wSt E q jb jr lf jf rd vr G) H := hP
  have hD : va_D A (wSt E q jb jr lf jf rd vr G) := hD
  refine z_ifb_ne (tgt := 10) hx hb dX2_numberThatRolls_5 (by decide) (fun c_5 => ?_) (fun c_5 => ?_)
  · refine lv_aload_n hx hb dX2_numberThatRolls_10 rfl (lv_at hl 0 rfl) ?_
    refine va_get (D := E.1) (cl := vwCl) (ci := 2) (v := .ref (q 1)) (C := RX2) (T := TX2) (N := 7) hx hb hts hinX2 hown hK hP 0 rfl rfl 0 (by decide) hf_11 (fun _ h => h) rfl dX2_numberThatRolls_11 ?_
    refine lv_iload_n hx hb dX2_numberThatRolls_14 rfl (lv_at hl 1 rfl) ?_
    refine z_aald (D := E.1) (cl := vwCl) (tys := zT E) (f := fun j : Nat => q (2 + 4 * j)) hx hb hK hP 1 3 rfl rfl (by omega) (by omega) (by omega) dX2_numberThatRolls_15 ?_
    refine W.eq (g2 := F0 m 16 ls [.ref (gq q gr 0)]) rfl ?_
    have hP := zP_perm hP (wS_perm (g := gr) (by omega))
    have hD := zD_perm hD (wS_perm (g := gr) (by omega))
    obtain ⟨hx1, hx2, hx3, hx4, hx5, hx6⟩ := hsi gr (by omega) (by omega)
    have hP : va_P E.1 vwCl (wF E q gr (wR E q G gr) jb jr lf jf rd vr (G gr 0 0) (G gr 0 1) (G gr 0 2) (G gr 0 3) (G gr 0 4) (G gr 0 5) (G gr 0 6) (G gr 1) (G gr 2) (G gr 3)) H := hP
    have hD : va_D A (wF E q gr (wR E q G gr) jb jr lf jf rd vr (G gr 0 0) (G gr 0 1) (G gr 0 2) (G gr 0 3) (G gr 0 4) (G gr 0 5) (G gr 0 6) (G gr 1) (G gr 2) (G gr 3)) := hD
    refine lv_astore_n (lv' := [(2, .ref (gq q gr 0)), (0, .ref (q 0)), (1, .int (iI gr))]) hx hb dX2_numberThatRolls_16 rfl hl (by decide) rfl (fun ls hl => ?_)
    refine lv_aload_n hx hb dX2_numberThatRolls_17 rfl (lv_at hl 0 rfl) ?_
    refine va_get (D := E.1) (cl := vwCl) (ci := 0) (v := .int (iI (G gr 0 2))) (C := RX0) (T := TX0) (N := 10) hx hb hts hinX0 hown hK hP 2 rfl rfl 2 (by decide) hf_100 (fun _ h => h) rfl dX2_numberThatRolls_18 ?_
    refine lv_aload_n hx hb dX2_numberThatRolls_21 rfl (lv_at hl 0 rfl) ?_
    refine va_get (D := E.1) (cl := vwCl) (ci := 0) (v := .int (iI (G gr 0 0))) (C := RX0) (T := TX0) (N := 10) hx hb hts hinX0 hown hK hP 2 rfl rfl 0 (by decide) hf_46 (fun _ h => h) rfl dX2_numberThatRolls_22 ?_
    refine z_icmp_lt (tgt := 39) hx hb dX2_numberThatRolls_25 (by decide) ⟨by omega, by omega⟩ ⟨by omega, by omega⟩ (fun c_25 => ?_) (fun c_25 => ?_)
    · refine lv_bipush (v := iI (-6)) hx hb dX2_numberThatRolls_39 (by decide) ?_
      have hP : va_P E.1 vwCl (wSt E q jb jr lf jf rd vr G) H := zP_perm hP (wS_perm (g := gr) (by omega)).symm
      have hD : va_D A (wSt E q jb jr lf jf rd vr G) := zD_perm hD (wS_perm (g := gr) (by omega)).symm
      exact z_iret hx hb hr hlocks hK hS () (by (repeat (first | with_reducible rfl | rw [if_pos (by omega)] | rw [if_neg (by omega)]))) hP hD dX2_numberThatRolls_41
    · refine lv_aload_n hx hb dX2_numberThatRolls_28 rfl (lv_at hl 0 rfl) ?_
      refine lv_aload_n hx hb dX2_numberThatRolls_29 rfl (lv_at hl 0 rfl) ?_
      refine z_callM (w0 := wS2 E q jb jr lf jf rd vr) (ci := 0) (qk := 0) (As := []) (rest := [.ref (gq q gr 0)]) hx hb hml hown hts hK hA hl.1 hP hD hS (c_X0_oldest l E (gq q gr) (G gr 1) (G gr 2) (G gr 3) (G gr 0 0) (G gr 0 1) (G gr 0 2) (G gr 0 3) (G gr 0 4) (G gr 0 5) (G gr 0 6)   ) gX2_numberThatRolls_X0_oldest rfl ndX0_oldest ⟨Nat.le_of_ble_eq_true rfl, Nat.le_of_ble_eq_true rfl⟩ rfl rfl rfl rfl rfl (Nat.le_of_ble_eq_true rfl) dX2_numberThatRolls_30 ⟨Nat.le_of_ble_eq_true rfl, Nat.le_of_ble_eq_true rfl⟩ (fun x u H locs hpost hP hD hS => ?_)
      subst hpost
      have hP : va_P E.1 vwCl (wF E q gr (wR E q G gr) jb jr lf jf rd vr (G gr 0 0) (G gr 0 1) (G gr 0 2) (G gr 0 3) (G gr 0 4) (G gr 0 5) (G gr 0 6) (G gr 1) (G gr 2) (G gr 3)) H := hP
      have hD : va_D A (wF E q gr (wR E q G gr) jb jr lf jf rd vr (G gr 0 0) (G gr 0 1) (G gr 0 2) (G gr 0 3) (G gr 0 4) (G gr 0 5) (G gr 0 6) (G gr 1) (G gr 2) (G gr 3)) := hD
      refine z_callM (w0 := wS2 E q jb jr lf jf rd vr) (ci := 0) (qk := 0) (As := [.int (iI ((G gr 0 1) - (G gr 0 2) + 1))]) (rest := []) hx hb hml hown hts hK hA hl.1 hP hD hS (c_X0_numberIfThere l E (gq q gr) (G gr 1) (G gr 2) (G gr 3) (G gr 0 0) (G gr 0 1) (G gr 0 2) (G gr 0 3) (G gr 0 4) (G gr 0 5) (G gr 0 6) ((G gr 0 1) - (G gr 0 2) + 1)  (by first | omega | exact hx3 | exact hx3 _ (by omega) (by omega) | exact ⟨by omega, by omega⟩) (by first | omega | exact hx3 | exact hx3 _ (by omega) (by omega) | exact ⟨by omega, by omega⟩) (by first | omega | exact hx3 | exact hx3 _ (by omega) (by omega) | exact ⟨by omega, by omega⟩) (by first | omega | exact hx3 | exact hx3 _ (by omega) (by omega) | exact ⟨by omega, by omega⟩)) gX2_numberThatRolls_X0_numberIfThere rfl ndX0_numberIfThere ⟨Nat.le_of_ble_eq_true rfl, Nat.le_of_ble_eq_true rfl⟩ rfl rfl rfl rfl rfl (Nat.le_of_ble_eq_true rfl) dX2_numberThatRolls_33 ⟨Nat.le_of_ble_eq_true rfl, Nat.le_of_ble_eq_true rfl⟩ (fun x u H locs hpost hP hD hS => ?_)
      subst hpost
      have hP : va_P E.1 vwCl (wF E q gr (wR E q G gr) jb jr lf jf rd vr (G gr 0 0) (G gr 0 1) (G gr 0 2) (G gr 0 3) (G gr 0 4) (G gr 0 5) (G gr 0 6) (G gr 1) (G gr 2) (G gr 3)) H := hP
      have hD : va_D A (wF E q gr (wR E q G gr) jb jr lf jf rd vr (G gr 0 0) (G gr 0 1) (G gr 0 2) (G gr 0 3) (G gr 0 4) (G gr 0 5) (G gr 0 6) (G gr 1) (G gr 2) (G gr 3)) := hD
      refine lv_goto (tgt := 41) hx hb dX2_numberThatRolls_36 (by decide) ?_
      have hP : va_P E.1 vwCl (wSt E q jb jr lf jf rd vr G) H := zP_perm hP (wS_perm (g := gr) (by omega)).symm
      have hD : va_D A (wSt E q jb jr lf jf rd vr G) := zD_perm hD (wS_perm (g := gr) (by omega)).symm
      exact z_iret hx hb hr hlocks hK hS () (by (repeat (first | with_reducible rfl | rw [if_pos (by omega)] | rw [if_neg (by omega)]))) hP hD dX2_numberThatRolls_41
  · refine lv_iconst (v := iI (-1)) hx hb dX2_numberThatRolls_8 (by decide) ?_
    exact z_iret hx hb hr hlocks hK hS () (by (repeat (first | with_reducible rfl | rw [if_pos (by omega)] | rw [if_neg (by omega)]))) hP hD dX2_numberThatRolls_9

theorem ndX2_newestIfFailed : yX2_newestIfFailed.cls = RX2 ∧ yX2_newestIfFailed.cls ≠ "java/lang/invoke/MethodHandle" ∧ yX2_newestIfFailed.cls ≠ "java/lang/invoke/VarHandle" ∧ (parseMethodDescriptor yX2_newestIfFailed.desc).map (fun d => d.parameters.length) = some 1 := by decide +kernel
set_option maxRecDepth 100000 in
set_option maxHeartbeats 1000000 in
theorem c_X2_newestIfFailed (l : Launch) (E : zE) (q : Nat → Nat) (jb jr lf jf rd vr : Int) (G : Int → zGr) (gr : Int) (h0 : rg gr) (h1 : SI G) (h2 : jr = 0 ∨ jr = 1) : zF l E yX2_newestIfFailed wsX2_newestIfFailed 3 63 [.ref (q 0), .int (iI gr)] (wSt E q jb jr lf jf rd vr G) (if ¬ (0 ≤ gr ∧ gr ≤ 5) then -1 else if ¬ jr = 0 ∧ ¬ G gr 0 6 = 0 then -6 else nIT (G gr 0 1) (G gr 0 2) (G gr 1) (G gr 0 1)) (wSt E q jb jr lf jf rd vr G) := by
  have hsi := h1
  refine zC_of (cc := cX2_newestIfFailed) (maxL := 3) (by decide) rfl (Nat.le_of_ble_eq_true rfl) ?_
  intro p e s m below meth c ls A hx hb hr hts hown hlocks hml hK hA hS hP hD hl
  have hown : s.vm.findClass RX2 = some m.cls := hown
  have hl : lv_has ls 3 [(0, .ref (q 0)), (1, .int (iI gr))] := hl
  have hinX2 : ∀ v ∈ u_ws RX2 TX2 7, v ∈ wsX2_newestIfFailed := by decide +kernel
  have hinX0 : ∀ v ∈ u_ws RX0 TX0 10, v ∈ wsX2_newestIfFailed := by decide +kernel
  have hf_11 := hts (.fieldLink RX2 11 "GenerationNames$State" "groups" "[LGenerationNames$Group;") (by decide +kernel)
  have hf_87 := hts (.fieldLink RX2 87 "GenerationNames$Group" "newest" "I") (by decide +kernel)
  refine lv_aload_n hx hb dX2_newestIfFailed_0 rfl (lv_at hl 0 rfl) ?_
  refine lv_iload_n hx hb dX2_newestIfFailed_1 rfl (lv_at hl 1 rfl) ?_
  refine z_callV0 (ci := 2) (qk := 0) (As := [.int (iI gr)]) (rest := []) hx hb hml hown hts hK hA hl.1 hP hD hS (c_X2_isGroup l E q jb jr lf jf rd vr G gr  (by first | omega | exact hx3 | exact hx3 _ (by omega) (by omega) | exact ⟨by omega, by omega⟩)) gX2_newestIfFailed_X2_isGroup rfl ndX2_isGroup ⟨Nat.le_of_ble_eq_true rfl, Nat.le_of_ble_eq_true rfl⟩ rfl rfl rfl rfl rfl (Nat.le_of_ble_eq_true rfl) dX2_newestIfFailed_2 ⟨Nat.le_of_ble_eq_true rfl, Nat.le_of_ble_eq_true rfl⟩ (fun x u H locs hpost hP hD hS => ?_)
  subst hpost
  have hP : va_P E.1 vwCl (wSt E q jb jr lf jf rd vr G) H := hP
  have hD : va_D A (wSt E q jb jr lf jf rd vr G) := hD
  refine z_ifb_ne (tgt := 10) hx hb dX2_newestIfFailed_5 (by decide) (fun c_5 => ?_) (fun c_5 => ?_)
  · refine lv_aload_n hx hb dX2_newestIfFailed_10 rfl (lv_at hl 0 rfl) ?_
    refine va_get (D := E.1) (cl := vwCl) (ci := 2) (v := .ref (q 1)) (C := RX2) (T := TX2) (N := 7) hx hb hts hinX2 hown hK hP 0 rfl rfl 0 (by decide) hf_11 (fun _ h => h) rfl dX2_newestIfFailed_11 ?_
    refine lv_iload_n hx hb dX2_newestIfFailed_14 rfl (lv_at hl 1 rfl) ?_
    refine z_aald (D := E.1) (cl := vwCl) (tys := zT E) (f := fun j : Nat => q (2 + 4 * j)) hx hb hK hP 1 3 rfl rfl (by omega) (by omega) (by omega) dX2_newestIfFailed_15 ?_
    refine W.eq (g2 := F0 m 16 ls [.ref (gq q gr 0)]) rfl ?_
    have hP := zP_perm hP (wS_perm (g := gr) (by omega))
    have hD := zD_perm hD (wS_perm (g := gr) (by omega))
    obtain ⟨hx1, hx2, hx3, hx4, hx5, hx6⟩ := hsi gr (by omega) (by omega)
    have hP : va_P E.1 vwCl (wF E q gr (wR E q G gr) jb jr lf jf rd vr (G gr 0 0) (G gr 0 1) (G gr 0 2) (G gr 0 3) (G gr 0 4) (G gr 0 5) (G gr 0 6) (G gr 1) (G gr 2) (G gr 3)) H := hP
    have hD : va_D A (wF E q gr (wR E q G gr) jb jr lf jf rd vr (G gr 0 0) (G gr 0 1) (G gr 0 2) (G gr 0 3) (G gr 0 4) (G gr 0 5) (G gr 0 6) (G gr 1) (G gr 2) (G gr 3)) := hD
    refine lv_astore_n (lv' := [(2, .ref (gq q gr 0)), (0, .ref (q 0)), (1, .int (iI gr))]) hx hb dX2_newestIfFailed_16 rfl hl (by decide) rfl (fun ls hl => ?_)
    refine lv_aload_n hx hb dX2_newestIfFailed_17 rfl (lv_at hl 1 rfl) ?_
    refine lv_aload_n hx hb dX2_newestIfFailed_18 rfl (lv_at hl 0 rfl) ?_
    refine z_callV0 (ci := 2) (qk := 0) (As := [.ref (gq q gr 0)]) (rest := []) hx hb hml hown hts hK hA hl.1 hP hD hS (c_X2_hasNewestOfJob l E q gr (wR E q G gr) jb jr lf jf rd vr (G gr 0 0) (G gr 0 1) (G gr 0 2) (G gr 0 3) (G gr 0 4) (G gr 0 5) (G gr 0 6) (G gr 1) (G gr 2) (G gr 3)   (by first | omega | exact hx3 | exact hx3 _ (by omega) (by omega) | exact ⟨by omega, by omega⟩) (by first | omega | exact hx3 | exact hx3 _ (by omega) (by omega) | exact ⟨by omega, by omega⟩)) gX2_newestIfFailed_X2_hasNewestOfJob rfl ndX2_hasNewestOfJob ⟨Nat.le_of_ble_eq_true rfl, Nat.le_of_ble_eq_true rfl⟩ rfl rfl rfl rfl rfl (Nat.le_of_ble_eq_true rfl) dX2_newestIfFailed_19 ⟨Nat.le_of_ble_eq_true rfl, Nat.le_of_ble_eq_true rfl⟩ (fun x u H locs hpost hP hD hS => ?_)
    subst hpost
    have hP : va_P E.1 vwCl (wF E q gr (wR E q G gr) jb jr lf jf rd vr (G gr 0 0) (G gr 0 1) (G gr 0 2) (G gr 0 3) (G gr 0 4) (G gr 0 5) (G gr 0 6) (G gr 1) (G gr 2) (G gr 3)) H := hP
    have hD : va_D A (wF E q gr (wR E q G gr) jb jr lf jf rd vr (G gr 0 0) (G gr 0 1) (G gr 0 2) (G gr 0 3) (G gr 0 4) (G gr 0 5) (G gr 0 6) (G gr 1) (G gr 2) (G gr 3)) := hD
    refine z_ifb_eq (tgt := 30) hx hb dX2_newestIfFailed_22 (by decide) (fun c_22 => ?_) (fun c_22 => ?_)
    · refine lv_aload_n hx hb dX2_newestIfFailed_30 rfl (lv_at hl 0 rfl) ?_
      refine lv_aload_n hx hb dX2_newestIfFailed_31 rfl (lv_at hl 0 rfl) ?_
      refine va_get (D := E.1) (cl := vwCl) (ci := 0) (v := .int (iI (G gr 0 1))) (C := RX0) (T := TX0) (N := 10) hx hb hts hinX0 hown hK hP 2 rfl rfl 1 (by decide) hf_87 (fun _ h => h) rfl dX2_newestIfFailed_32 ?_
      refine z_callM (w0 := wS2 E q jb jr lf jf rd vr) (ci := 0) (qk := 0) (As := [.int (iI (G gr 0 1))]) (rest := []) hx hb hml hown hts hK hA hl.1 hP hD hS (c_X0_numberIfThere l E (gq q gr) (G gr 1) (G gr 2) (G gr 3) (G gr 0 0) (G gr 0 1) (G gr 0 2) (G gr 0 3) (G gr 0 4) (G gr 0 5) (G gr 0 6) (G gr 0 1)  (by first | omega | exact hx3 | exact hx3 _ (by omega) (by omega) | exact ⟨by omega, by omega⟩) (by first | omega | exact hx3 | exact hx3 _ (by omega) (by omega) | exact ⟨by omega, by omega⟩) (by first | omega | exact hx3 | exact hx3 _ (by omega) (by omega) | exact ⟨by omega, by omega⟩) (by first | omega | exact hx3 | exact hx3 _ (by omega) (by omega) | exact ⟨by omega, by omega⟩)) gX2_newestIfFailed_X0_numberIfThere rfl ndX0_numberIfThere ⟨Nat.le_of_ble_eq_true rfl, Nat.le_of_ble_eq_true rfl⟩ rfl rfl rfl rfl rfl (Nat.le_of_ble_eq_true rfl) dX2_newestIfFailed_35 ⟨Nat.le_of_ble_eq_true rfl, Nat.le_of_ble_eq_true rfl⟩ (fun x u H locs hpost hP hD hS => ?_)
      subst hpost
      have hP : va_P E.1 vwCl (wF E q gr (wR E q G gr) jb jr lf jf rd vr (G gr 0 0) (G gr 0 1) (G gr 0 2) (G gr 0 3) (G gr 0 4) (G gr 0 5) (G gr 0 6) (G gr 1) (G gr 2) (G gr 3)) H := hP
      have hD : va_D A (wF E q gr (wR E q G gr) jb jr lf jf rd vr (G gr 0 0) (G gr 0 1) (G gr 0 2) (G gr 0 3) (G gr 0 4) (G gr 0 5) (G gr 0 6) (G gr 1) (G gr 2) (G gr 3)) := hD
      have hP : va_P E.1 vwCl (wSt E q jb jr lf jf rd vr G) H := zP_perm hP (wS_perm (g := gr) (by omega)).symm
      have hD : va_D A (wSt E q jb jr lf jf rd vr G) := zD_perm hD (wS_perm (g := gr) (by omega)).symm
      exact z_iret hx hb hr hlocks hK hS () (by (repeat (first | with_reducible rfl | rw [if_pos (by omega)] | rw [if_neg (by omega)]))) hP hD dX2_newestIfFailed_38
    · refine lv_bipush (v := iI (-6)) hx hb dX2_newestIfFailed_25 (by decide) ?_
      refine lv_goto (tgt := 38) hx hb dX2_newestIfFailed_27 (by decide) ?_
      have hP : va_P E.1 vwCl (wSt E q jb jr lf jf rd vr G) H := zP_perm hP (wS_perm (g := gr) (by omega)).symm
      have hD : va_D A (wSt E q jb jr lf jf rd vr G) := zD_perm hD (wS_perm (g := gr) (by omega)).symm
      exact z_iret hx hb hr hlocks hK hS () (by (repeat (first | with_reducible rfl | rw [if_pos (by omega)] | rw [if_neg (by omega)]))) hP hD dX2_newestIfFailed_38
  · refine lv_iconst (v := iI (-1)) hx hb dX2_newestIfFailed_8 (by decide) ?_
    exact z_iret hx hb hr hlocks hK hS () (by (repeat (first | with_reducible rfl | rw [if_pos (by omega)] | rw [if_neg (by omega)]))) hP hD dX2_newestIfFailed_9

theorem ndX2_leastKeepOf : yX2_leastKeepOf.cls = RX2 ∧ yX2_leastKeepOf.cls ≠ "java/lang/invoke/MethodHandle" ∧ yX2_leastKeepOf.cls ≠ "java/lang/invoke/VarHandle" ∧ (parseMethodDescriptor yX2_leastKeepOf.desc).map (fun d => d.parameters.length) = some 1 := by decide +kernel
set_option maxRecDepth 100000 in
set_option maxHeartbeats 1000000 in
theorem c_X2_leastKeepOf (l : Launch) (E : zE) (q : Nat → Nat) (jb jr lf jf rd vr : Int) (G : Int → zGr) (gr : Int) (h0 : rg gr) (h1 : SI G) : zF l E yX2_leastKeepOf wsX2_leastKeepOf 1 30 [.ref (q 0), .int (iI gr)] (wSt E q jb jr lf jf rd vr G) (if ¬ (0 ≤ gr ∧ gr ≤ 5) then -1 else if 1 < G gr 0 2 then G gr 0 2 else 1) (wSt E q jb jr lf jf rd vr G) := by
  have hsi := h1
  refine zC_of (cc := cX2_leastKeepOf) (maxL := 2) (by decide) rfl (Nat.le_of_ble_eq_true rfl) ?_
  intro p e s m below meth c ls A hx hb hr hts hown hlocks hml hK hA hS hP hD hl
  have hown : s.vm.findClass RX2 = some m.cls := hown
  have hl : lv_has ls 2 [(0, .ref (q 0)), (1, .int (iI gr))] := hl
  have hinX2 : ∀ v ∈ u_ws RX2 TX2 7, v ∈ wsX2_leastKeepOf := by decide +kernel
  have hinX0 : ∀ v ∈ u_ws RX0 TX0 10, v ∈ wsX2_leastKeepOf := by decide +kernel
  have hf_11 := hts (.fieldLink RX2 11 "GenerationNames$State" "groups" "[LGenerationNames$Group;") (by decide +kernel)
  have hf_100 := hts (.fieldLink RX2 100 "GenerationNames$Group" "size" "I") (by decide +kernel)
  refine lv_aload_n hx hb dX2_leastKeepOf_0 rfl (lv_at hl 0 rfl) ?_
  refine lv_iload_n hx hb dX2_leastKeepOf_1 rfl (lv_at hl 1 rfl) ?_
  refine z_callV0 (ci := 2) (qk := 0) (As := [.int (iI gr)]) (rest := []) hx hb hml hown hts hK hA hl.1 hP hD hS (c_X2_isGroup l E q jb jr lf jf rd vr G gr  (by first | omega | exact hx3 | exact hx3 _ (by omega) (by omega) | exact ⟨by omega, by omega⟩)) gX2_leastKeepOf_X2_isGroup rfl ndX2_isGroup ⟨Nat.le_of_ble_eq_true rfl, Nat.le_of_ble_eq_true rfl⟩ rfl rfl rfl rfl rfl (Nat.le_of_ble_eq_true rfl) dX2_leastKeepOf_2 ⟨Nat.le_of_ble_eq_true rfl, Nat.le_of_ble_eq_true rfl⟩ (fun x u H locs hpost hP hD hS => ?_)
  subst hpost
  have hP : va_P E.1 vwCl (wSt E q jb jr lf jf rd vr G) H := hP
  have hD : va_D A (wSt E q jb jr lf jf rd vr G) := hD
  refine z_ifb_ne (tgt := 10) hx hb dX2_leastKeepOf_5 (by decide) (fun c_5 => ?_) (fun c_5 => ?_)
  · refine lv_iconst (v := iI 1) hx hb dX2_leastKeepOf_10 (by decide) ?_
    refine lv_aload_n hx hb dX2_leastKeepOf_11 rfl (lv_at hl 0 rfl) ?_
    refine va_get (D := E.1) (cl := vwCl) (ci := 2) (v := .ref (q 1)) (C := RX2) (T := TX2) (N := 7) hx hb hts hinX2 hown hK hP 0 rfl rfl 0 (by decide) hf_11 (fun _ h => h) rfl dX2_leastKeepOf_12 ?_
    refine lv_iload_n hx hb dX2_leastKeepOf_15 rfl (lv_at hl 1 rfl) ?_
    refine z_aald (D := E.1) (cl := vwCl) (tys := zT E) (f := fun j : Nat => q (2 + 4 * j)) hx hb hK hP 1 3 rfl rfl (by omega) (by omega) (by omega) dX2_leastKeepOf_16 ?_
    refine W.eq (g2 := F0 m 17 ls [.ref (gq q gr 0), .int (iI 1)]) rfl ?_
    have hP := zP_perm hP (wS_perm (g := gr) (by omega))
    have hD := zD_perm hD (wS_perm (g := gr) (by omega))
    obtain ⟨hx1, hx2, hx3, hx4, hx5, hx6⟩ := hsi gr (by omega) (by omega)
    have hP : va_P E.1 vwCl (wF E q gr (wR E q G gr) jb jr lf jf rd vr (G gr 0 0) (G gr 0 1) (G gr 0 2) (G gr 0 3) (G gr 0 4) (G gr 0 5) (G gr 0 6) (G gr 1) (G gr 2) (G gr 3)) H := hP
    have hD : va_D A (wF E q gr (wR E q G gr) jb jr lf jf rd vr (G gr 0 0) (G gr 0 1) (G gr 0 2) (G gr 0 3) (G gr 0 4) (G gr 0 5) (G gr 0 6) (G gr 1) (G gr 2) (G gr 3)) := hD
    refine va_get (D := E.1) (cl := vwCl) (ci := 0) (v := .int (iI (G gr 0 2))) (C := RX0) (T := TX0) (N := 10) hx hb hts hinX0 hown hK hP 2 rfl rfl 2 (by decide) hf_100 (fun _ h => h) rfl dX2_leastKeepOf_17 ?_
    refine z_mmax hx hb (by rw [hml]; exact hl.1.symm) hown (hts (.methodLink RX2 138 yJ9_max_7cf53) (by decide +kernel)) (hts (.static yJ9_max_7cf53) (by decide +kernel)) (hts (.initialized RJ9) (by decide +kernel)) (hts (.code yJ9_max_7cf53 cJ9_max_7cf53 2 (some .int)) (by decide +kernel)) (Nat.le_of_ble_eq_true rfl) (Nat.le_of_ble_eq_true rfl) (Nat.le_of_ble_eq_true rfl) (Nat.le_of_ble_eq_true rfl) ⟨by omega, by omega⟩ ⟨by omega, by omega⟩ dX2_leastKeepOf_20 ?_
    have hP : va_P E.1 vwCl (wSt E q jb jr lf jf rd vr G) H := zP_perm hP (wS_perm (g := gr) (by omega)).symm
    have hD : va_D A (wSt E q jb jr lf jf rd vr G) := zD_perm hD (wS_perm (g := gr) (by omega)).symm
    exact z_iret hx hb hr hlocks hK hS () (by first | (rw [if_neg (show ¬ ¬ (0 ≤ gr ∧ gr ≤ 5) by omega)]) | rw [if_pos (by omega)]) hP hD dX2_leastKeepOf_23
  · refine lv_iconst (v := iI (-1)) hx hb dX2_leastKeepOf_8 (by decide) ?_
    exact z_iret hx hb hr hlocks hK hS () (by first | (rw [if_neg (show ¬ ¬ (0 ≤ gr ∧ gr ≤ 5) by omega)]) | rw [if_pos (by omega)]) hP hD dX2_leastKeepOf_9

theorem ndX2_startJob : yX2_startJob.cls = RX2 ∧ yX2_startJob.cls ≠ "java/lang/invoke/MethodHandle" ∧ yX2_startJob.cls ≠ "java/lang/invoke/VarHandle" ∧ (parseMethodDescriptor yX2_startJob.desc).map (fun d => d.parameters.length) = some 0 := by decide +kernel
set_option maxRecDepth 100000 in
set_option maxHeartbeats 1000000 in
theorem c_X2_startJob (l : Launch) (E : zE) (q : Nat → Nat) (jb jr lf jf rd vr : Int) (G : Int → zGr) : zF l E yX2_startJob wsX2_startJob 0 0 [.ref (q 0)] (wSt E q jb jr lf jf rd vr G) (jb + 1) (wSt E q (jb + 1) 1 lf jf rd vr (sSt G)) := by
  refine zC_of (cc := cX2_startJob) (maxL := 2) (by decide) rfl (Nat.le_of_ble_eq_true rfl) ?_
  intro p e s m below meth c ls A hx hb hr hts hown hlocks hml hK hA hS hP hD hl
  have hown : s.vm.findClass RX2 = some m.cls := hown
  have hl : lv_has ls 2 [(0, .ref (q 0))] := hl
  have hinX2 : ∀ v ∈ u_ws RX2 TX2 7, v ∈ wsX2_startJob := by decide +kernel
  have hinX0 : ∀ v ∈ u_ws RX0 TX0 10, v ∈ wsX2_startJob := by decide +kernel
  have hf_21 := hts (.fieldLink RX2 21 "GenerationNames$State" "jobRuns" "Z") (by decide +kernel)
  have hf_17 := hts (.fieldLink RX2 17 "GenerationNames$State" "jobsBegun" "I") (by decide +kernel)
  have hf_11 := hts (.fieldLink RX2 11 "GenerationNames$State" "groups" "[LGenerationNames$Group;") (by decide +kernel)
  have hf_53 := hts (.fieldLink RX2 53 "GenerationNames$Group" "madeByJob" "I") (by decide +kernel)
  refine lv_iconst (v := iI 0) hx hb dX2_startJob_0 (by decide) ?_
  refine lv_istore_n (lv' := [(1, .int (iI 0)), (0, .ref (q 0))]) hx hb dX2_startJob_1 rfl hl (by decide) rfl (fun ls hl => ?_)
  have hloop2 : ∀ (n : Nat) (G1 : Int → zGr) (i1 : Int) (hmu : 6 - i1 = (n : Int)) (hi2_0 : G1 = itr (fun g Y => gU Y g (xM0 (Y g))) G (i1).toNat) (hi2_1 : 0 ≤ i1 ∧ i1 ≤ 6) (H : Heap) (locs : List Loc) (ls : Array Slot), va_P E.1 vwCl (wSt E q jb jr lf jf rd vr G1) H → va_D A (wSt E q jb jr lf jf rd vr G1) → va_S A s.heap H locs → lv_has ls 2 [(1, .int (iI i1)), (0, .ref (q 0))] → W p l e (zR 0 0) s m ([.ref (q 0)] : List Value).toArray below meth c H locs 0 0 (MQ below (zQ E A (S := Unit) (fun x _ => x = (jb + 1)) (fun _ => wSt E q (jb + 1) 1 lf jf rd vr (sSt G))) ([.ref (q 0)] : List Value).toArray s 0 0 A) (F0 m 2 ls []) := by
    intro n
    induction n using Nat.strongRecOn with
    | ind n ih2 =>
      intro G1 i1 hmu2 hi2_0 hi2_1 H locs ls hP hD hS hl
      refine lv_iload_n hx hb dX2_startJob_2 rfl (lv_at hl 0 rfl) ?_
      refine lv_bipush (v := iI 6) hx hb dX2_startJob_3 (by decide) ?_
      refine z_icmp_ge (tgt := 24) hx hb dX2_startJob_5 (by decide) ⟨by omega, by omega⟩ ⟨by omega, by omega⟩ (fun c_5 => ?_) (fun c_5 => ?_)
      · refine lv_aload_n hx hb dX2_startJob_24 rfl (lv_at hl 1 rfl) ?_
        refine lv_iconst (v := iI 1) hx hb dX2_startJob_25 (by decide) ?_
        refine va_put (D := E.1) (cl := vwCl) (ci := 2) (v := .int (iI 1)) (ty := .boolean) (C := RX2) (T := TX2) (N := 7) hx hb hts hinX2 tyX2 tyX2_ok nmX2 hown hK hP hD hS 0 rfl rfl 2 (by decide) hf_21 (fun _ h => h) rfl (by decide +kernel) (rfl) (rfl) (Nat.le_of_ble_eq_true rfl) dX2_startJob_26 (fun H locs hP hD hS => ?_)
        have hP : va_P E.1 vwCl (wSt E q jb 1 lf jf rd vr G1) H := hP
        have hD : va_D A (wSt E q jb 1 lf jf rd vr G1) := hD
        refine lv_aload_n hx hb dX2_startJob_29 rfl (lv_at hl 1 rfl) ?_
        refine lv_dup hx hb dX2_startJob_30 rfl ?_
        refine va_get (D := E.1) (cl := vwCl) (ci := 2) (v := .int (iI jb)) (C := RX2) (T := TX2) (N := 7) hx hb hts hinX2 hown hK hP 0 rfl rfl 1 (by decide) hf_17 (fun _ h => h) rfl dX2_startJob_31 ?_
        refine lv_iconst (v := iI 1) hx hb dX2_startJob_34 (by decide) ?_
        refine z_iadd hx hb dX2_startJob_35 ?_
        refine va_put (D := E.1) (cl := vwCl) (ci := 2) (v := .int (iI (jb + 1))) (ty := .int) (C := RX2) (T := TX2) (N := 7) hx hb hts hinX2 tyX2 tyX2_ok nmX2 hown hK hP hD hS 0 rfl rfl 1 (by decide) hf_17 (fun _ h => h) rfl (by decide +kernel) (rfl) (rfl) (Nat.le_of_ble_eq_true rfl) dX2_startJob_36 (fun H locs hP hD hS => ?_)
        have hP : va_P E.1 vwCl (wSt E q (jb + 1) 1 lf jf rd vr G1) H := hP
        have hD : va_D A (wSt E q (jb + 1) 1 lf jf rd vr G1) := hD
        refine lv_aload_n hx hb dX2_startJob_39 rfl (lv_at hl 1 rfl) ?_
        refine va_get (D := E.1) (cl := vwCl) (ci := 2) (v := .int (iI (jb + 1))) (C := RX2) (T := TX2) (N := 7) hx hb hts hinX2 hown hK hP 0 rfl rfl 1 (by decide) hf_17 (fun _ h => h) rfl dX2_startJob_40 ?_
        have eqc_G : (sSt G) = G1 := by rw [hi2_0, show i1 = 6 by omega]; rfl
        have hP : va_P E.1 vwCl (wSt E q (jb + 1) 1 lf jf rd vr (sSt G)) H := by rw [eqc_G]; exact hP
        have hD : va_D A (wSt E q (jb + 1) 1 lf jf rd vr (sSt G)) := by rw [eqc_G]; exact hD
        exact z_iret hx hb hr hlocks hK hS () (by (repeat (first | with_reducible rfl | rw [if_pos (by omega)] | rw [if_neg (by omega)]))) hP hD dX2_startJob_43
      · refine lv_aload_n hx hb dX2_startJob_8 rfl (lv_at hl 1 rfl) ?_
        refine va_get (D := E.1) (cl := vwCl) (ci := 2) (v := .ref (q 1)) (C := RX2) (T := TX2) (N := 7) hx hb hts hinX2 hown hK hP 0 rfl rfl 0 (by decide) hf_11 (fun _ h => h) rfl dX2_startJob_9 ?_
        refine lv_iload_n hx hb dX2_startJob_12 rfl (lv_at hl 0 rfl) ?_
        refine z_aald (D := E.1) (cl := vwCl) (tys := zT E) (f := fun j : Nat => q (2 + 4 * j)) hx hb hK hP 1 3 rfl rfl (by omega) (by omega) (by omega) dX2_startJob_13 ?_
        refine W.eq (g2 := F0 m 14 ls [.ref (gq q i1 0)]) rfl ?_
        have hP := zP_perm hP (wS_perm (g := i1) (by omega))
        have hD := zD_perm hD (wS_perm (g := i1) (by omega))
        have hP : va_P E.1 vwCl (wF E q i1 (wR E q G1 i1) jb jr lf jf rd vr (G1 i1 0 0) (G1 i1 0 1) (G1 i1 0 2) (G1 i1 0 3) (G1 i1 0 4) (G1 i1 0 5) (G1 i1 0 6) (G1 i1 1) (G1 i1 2) (G1 i1 3)) H := hP
        have hD : va_D A (wF E q i1 (wR E q G1 i1) jb jr lf jf rd vr (G1 i1 0 0) (G1 i1 0 1) (G1 i1 0 2) (G1 i1 0 3) (G1 i1 0 4) (G1 i1 0 5) (G1 i1 0 6) (G1 i1 1) (G1 i1 2) (G1 i1 3)) := hD
        refine lv_iconst (v := iI 0) hx hb dX2_startJob_14 (by decide) ?_
        refine va_put (D := E.1) (cl := vwCl) (ci := 0) (v := .int (iI 0)) (ty := .int) (C := RX0) (T := TX0) (N := 10) hx hb hts hinX0 tyX0 tyX0_ok nmX0 hown hK hP hD hS 2 rfl rfl 6 (by decide) hf_53 (fun _ h => h) rfl (by decide +kernel) (rfl) (rfl) (Nat.le_of_ble_eq_true rfl) dX2_startJob_15 (fun H locs hP hD hS => ?_)
        have hP : va_P E.1 vwCl (wF E q i1 (wR E q G1 i1) jb jr lf jf rd vr (G1 i1 0 0) (G1 i1 0 1) (G1 i1 0 2) (G1 i1 0 3) (G1 i1 0 4) (G1 i1 0 5) 0 (G1 i1 1) (G1 i1 2) (G1 i1 3)) H := hP
        have hD : va_D A (wF E q i1 (wR E q G1 i1) jb jr lf jf rd vr (G1 i1 0 0) (G1 i1 0 1) (G1 i1 0 2) (G1 i1 0 3) (G1 i1 0 4) (G1 i1 0 5) 0 (G1 i1 1) (G1 i1 2) (G1 i1 3)) := hD
        refine lv_iinc (v := iI (i1 + 1)) (lv' := [(1, .int (iI (i1 + 1))), (0, .ref (q 0))]) hx hb dX2_startJob_18 hl (k := 0) rfl (iI_add _ _) (by decide) rfl (fun ls hl => ?_)
        refine lv_goto (tgt := 2) hx hb dX2_startJob_21 (by decide) ?_
        have hP : va_P E.1 vwCl (wSt E q jb jr lf jf rd vr (gU G1 i1 (xM0 (G1 i1)))) H := zP_perm hP (wF_perm (g := i1) (by omega))
        have hD : va_D A (wSt E q jb jr lf jf rd vr (gU G1 i1 (xM0 (G1 i1)))) := zD_perm hD (wF_perm (g := i1) (by omega))
        exact ih2 (6 - (i1 + 1) : Int).toNat (by omega) (gU G1 i1 (xM0 (G1 i1))) (i1 + 1) (by omega) (by rw [itr_step (by omega), ← hi2_0]) (by omega) _ _ ls hP hD hS (lv_sub hl [0, 1] rfl)
  exact hloop2 (6 - 0 : Int).toNat G 0 (by omega) (rfl) (by omega) _ _ ls hP hD hS (lv_sub hl [0, 1] rfl)

theorem ndX2_beginJob : yX2_beginJob.cls = RX2 ∧ yX2_beginJob.cls ≠ "java/lang/invoke/MethodHandle" ∧ yX2_beginJob.cls ≠ "java/lang/invoke/VarHandle" ∧ (parseMethodDescriptor yX2_beginJob.desc).map (fun d => d.parameters.length) = some 0 := by decide +kernel
set_option maxRecDepth 100000 in
set_option maxHeartbeats 1000000 in
theorem c_X2_beginJob (l : Launch) (E : zE) (q : Nat → Nat) (jb jr lf jf rd vr : Int) (G : Int → zGr) (h0 : jr = 0 ∨ jr = 1) : zF l E yX2_beginJob wsX2_beginJob 1 21 [.ref (q 0)] (wSt E q jb jr lf jf rd vr G) (if jr = 0 then jb + 1 else -5) (wSt E q (if jr = 0 then jb + 1 else jb) (if jr = 0 then 1 else jr) lf jf rd vr (if jr = 0 then sSt (sNJ G) else G)) := by
  refine zC_of (cc := cX2_beginJob) (maxL := 2) (by decide) rfl (Nat.le_of_ble_eq_true rfl) ?_
  intro p e s m below meth c ls A hx hb hr hts hown hlocks hml hK hA hS hP hD hl
  have hown : s.vm.findClass RX2 = some m.cls := hown
  have hl : lv_has ls 2 [(0, .ref (q 0))] := hl
  have hinX2 : ∀ v ∈ u_ws RX2 TX2 7, v ∈ wsX2_beginJob := by decide +kernel
  have hinX0 : ∀ v ∈ u_ws RX0 TX0 10, v ∈ wsX2_beginJob := by decide +kernel
  have hf_21 := hts (.fieldLink RX2 21 "GenerationNames$State" "jobRuns" "Z") (by decide +kernel)
  have hf_11 := hts (.fieldLink RX2 11 "GenerationNames$State" "groups" "[LGenerationNames$Group;") (by decide +kernel)
  have hf_87 := hts (.fieldLink RX2 87 "GenerationNames$Group" "newest" "I") (by decide +kernel)
  have hf_90 := hts (.fieldLink RX2 90 "GenerationNames$Group" "newestForJob" "I") (by decide +kernel)
  refine lv_aload_n hx hb dX2_beginJob_0 rfl (lv_at hl 0 rfl) ?_
  refine va_get (D := E.1) (cl := vwCl) (ci := 2) (v := .int (iI jr)) (C := RX2) (T := TX2) (N := 7) hx hb hts hinX2 hown hK hP 0 rfl rfl 2 (by decide) hf_21 (fun _ h => h) rfl dX2_beginJob_1 ?_
  refine z_if_eq (tgt := 10) hx hb dX2_beginJob_4 (by decide) ⟨by omega, by omega⟩ (fun c_4 => ?_) (fun c_4 => ?_)
  · refine lv_iconst (v := iI 0) hx hb dX2_beginJob_10 (by decide) ?_
    refine lv_istore_n (lv' := [(1, .int (iI 0)), (0, .ref (q 0))]) hx hb dX2_beginJob_11 rfl hl (by decide) rfl (fun ls hl => ?_)
    have hloop12 : ∀ (n : Nat) (G1 : Int → zGr) (i1 : Int) (hmu : 6 - i1 = (n : Int)) (hi12_0 : G1 = itr (fun g Y => gU Y g (xNJ (Y g))) G (i1).toNat) (hi12_1 : 0 ≤ i1 ∧ i1 ≤ 6) (H : Heap) (locs : List Loc) (ls : Array Slot), va_P E.1 vwCl (wSt E q jb jr lf jf rd vr G1) H → va_D A (wSt E q jb jr lf jf rd vr G1) → va_S A s.heap H locs → lv_has ls 2 [(1, .int (iI i1)), (0, .ref (q 0))] → W p l e (zR 1 21) s m ([.ref (q 0)] : List Value).toArray below meth c H locs 0 0 (MQ below (zQ E A (S := Unit) (fun x _ => x = (if jr = 0 then jb + 1 else -5)) (fun _ => wSt E q (if jr = 0 then jb + 1 else jb) (if jr = 0 then 1 else jr) lf jf rd vr (if jr = 0 then sSt (sNJ G) else G))) ([.ref (q 0)] : List Value).toArray s 0 0 A) (F0 m 12 ls []) := by
      intro n
      induction n using Nat.strongRecOn with
      | ind n ih12 =>
        intro G1 i1 hmu12 hi12_0 hi12_1 H locs ls hP hD hS hl
        refine lv_iload_n hx hb dX2_beginJob_12 rfl (lv_at hl 0 rfl) ?_
        refine lv_bipush (v := iI 6) hx hb dX2_beginJob_13 (by decide) ?_
        refine z_icmp_ge (tgt := 42) hx hb dX2_beginJob_15 (by decide) ⟨by omega, by omega⟩ ⟨by omega, by omega⟩ (fun c_15 => ?_) (fun c_15 => ?_)
        · refine lv_aload_n hx hb dX2_beginJob_42 rfl (lv_at hl 1 rfl) ?_
          have hnj : G1 = sNJ G := by rw [hi12_0, show i1 = 6 by omega]; rfl
          refine z_callV0 (ci := 2) (qk := 0) (As := []) (rest := []) hx hb hml hown hts hK hA hl.1 hP hD hS (c_X2_startJob l E q jb jr lf jf rd vr G1   ) gX2_beginJob_X2_startJob rfl ndX2_startJob ⟨Nat.le_of_ble_eq_true rfl, Nat.le_of_ble_eq_true rfl⟩ rfl rfl rfl rfl rfl (Nat.le_of_ble_eq_true rfl) dX2_beginJob_43 ⟨Nat.le_of_ble_eq_true rfl, Nat.le_of_ble_eq_true rfl⟩ (fun x u H locs hpost hP hD hS => ?_)
          subst hpost
          have hP : va_P E.1 vwCl (wSt E q (jb + 1) 1 lf jf rd vr (sSt G1)) H := hP
          have hD : va_D A (wSt E q (jb + 1) 1 lf jf rd vr (sSt G1)) := hD
          have eqc_jb : (if jr = 0 then jb + 1 else jb) = jb + 1 := by (first | rw [if_pos (by omega)] | rw [if_neg (by omega)])
          have eqc_jr : (if jr = 0 then 1 else jr) = 1 := by (first | rw [if_pos (by omega)] | rw [if_neg (by omega)])
          have eqc_G : (if jr = 0 then sSt (sNJ G) else G) = sSt G1 := by (first | rw [if_pos (by omega)] | rw [if_neg (by omega)]); all_goals (rw [hnj])
          have hP : va_P E.1 vwCl (wSt E q (if jr = 0 then jb + 1 else jb) (if jr = 0 then 1 else jr) lf jf rd vr (if jr = 0 then sSt (sNJ G) else G)) H := by rw [eqc_jb, eqc_jr, eqc_G]; exact hP
          have hD : va_D A (wSt E q (if jr = 0 then jb + 1 else jb) (if jr = 0 then 1 else jr) lf jf rd vr (if jr = 0 then sSt (sNJ G) else G)) := by rw [eqc_jb, eqc_jr, eqc_G]; exact hD
          exact z_iret hx hb hr hlocks hK hS () (by (repeat (first | with_reducible rfl | rw [if_pos (by omega)] | rw [if_neg (by omega)]))) hP hD dX2_beginJob_46
        · refine lv_aload_n hx hb dX2_beginJob_18 rfl (lv_at hl 1 rfl) ?_
          refine va_get (D := E.1) (cl := vwCl) (ci := 2) (v := .ref (q 1)) (C := RX2) (T := TX2) (N := 7) hx hb hts hinX2 hown hK hP 0 rfl rfl 0 (by decide) hf_11 (fun _ h => h) rfl dX2_beginJob_19 ?_
          refine lv_iload_n hx hb dX2_beginJob_22 rfl (lv_at hl 0 rfl) ?_
          refine z_aald (D := E.1) (cl := vwCl) (tys := zT E) (f := fun j : Nat => q (2 + 4 * j)) hx hb hK hP 1 3 rfl rfl (by omega) (by omega) (by omega) dX2_beginJob_23 ?_
          refine W.eq (g2 := F0 m 24 ls [.ref (gq q i1 0)]) rfl ?_
          have hP := zP_perm hP (wS_perm (g := i1) (by omega))
          have hD := zD_perm hD (wS_perm (g := i1) (by omega))
          have hP : va_P E.1 vwCl (wF E q i1 (wR E q G1 i1) jb jr lf jf rd vr (G1 i1 0 0) (G1 i1 0 1) (G1 i1 0 2) (G1 i1 0 3) (G1 i1 0 4) (G1 i1 0 5) (G1 i1 0 6) (G1 i1 1) (G1 i1 2) (G1 i1 3)) H := hP
          have hD : va_D A (wF E q i1 (wR E q G1 i1) jb jr lf jf rd vr (G1 i1 0 0) (G1 i1 0 1) (G1 i1 0 2) (G1 i1 0 3) (G1 i1 0 4) (G1 i1 0 5) (G1 i1 0 6) (G1 i1 1) (G1 i1 2) (G1 i1 3)) := hD
          refine lv_aload_n hx hb dX2_beginJob_24 rfl (lv_at hl 1 rfl) ?_
          refine va_get (D := E.1) (cl := vwCl) (ci := 2) (v := .ref (q 1)) (C := RX2) (T := TX2) (N := 7) hx hb hts hinX2 hown hK hP 0 rfl rfl 0 (by decide) hf_11 (fun _ h => h) rfl dX2_beginJob_25 ?_
          refine lv_iload_n hx hb dX2_beginJob_28 rfl (lv_at hl 0 rfl) ?_
          refine z_aald (D := E.1) (cl := vwCl) (tys := zT E) (f := fun j : Nat => q (2 + 4 * j)) hx hb hK hP 1 3 rfl rfl (by omega) (by omega) (by omega) dX2_beginJob_29 ?_
          refine W.eq (g2 := F0 m 30 ls [.ref (gq q i1 0), .ref (gq q i1 0)]) rfl ?_
          have hP : va_P E.1 vwCl (wF E q i1 (wR E q G1 i1) jb jr lf jf rd vr (G1 i1 0 0) (G1 i1 0 1) (G1 i1 0 2) (G1 i1 0 3) (G1 i1 0 4) (G1 i1 0 5) (G1 i1 0 6) (G1 i1 1) (G1 i1 2) (G1 i1 3)) H := hP
          have hD : va_D A (wF E q i1 (wR E q G1 i1) jb jr lf jf rd vr (G1 i1 0 0) (G1 i1 0 1) (G1 i1 0 2) (G1 i1 0 3) (G1 i1 0 4) (G1 i1 0 5) (G1 i1 0 6) (G1 i1 1) (G1 i1 2) (G1 i1 3)) := hD
          refine va_get (D := E.1) (cl := vwCl) (ci := 0) (v := .int (iI (G1 i1 0 1))) (C := RX0) (T := TX0) (N := 10) hx hb hts hinX0 hown hK hP 2 rfl rfl 1 (by decide) hf_87 (fun _ h => h) rfl dX2_beginJob_30 ?_
          refine va_put (D := E.1) (cl := vwCl) (ci := 0) (v := .int (iI (G1 i1 0 1))) (ty := .int) (C := RX0) (T := TX0) (N := 10) hx hb hts hinX0 tyX0 tyX0_ok nmX0 hown hK hP hD hS 2 rfl rfl 5 (by decide) hf_90 (fun _ h => h) rfl (by decide +kernel) (rfl) (rfl) (Nat.le_of_ble_eq_true rfl) dX2_beginJob_33 (fun H locs hP hD hS => ?_)
          have hP : va_P E.1 vwCl (wF E q i1 (wR E q G1 i1) jb jr lf jf rd vr (G1 i1 0 0) (G1 i1 0 1) (G1 i1 0 2) (G1 i1 0 3) (G1 i1 0 4) (G1 i1 0 1) (G1 i1 0 6) (G1 i1 1) (G1 i1 2) (G1 i1 3)) H := hP
          have hD : va_D A (wF E q i1 (wR E q G1 i1) jb jr lf jf rd vr (G1 i1 0 0) (G1 i1 0 1) (G1 i1 0 2) (G1 i1 0 3) (G1 i1 0 4) (G1 i1 0 1) (G1 i1 0 6) (G1 i1 1) (G1 i1 2) (G1 i1 3)) := hD
          refine lv_iinc (v := iI (i1 + 1)) (lv' := [(1, .int (iI (i1 + 1))), (0, .ref (q 0))]) hx hb dX2_beginJob_36 hl (k := 0) rfl (iI_add _ _) (by decide) rfl (fun ls hl => ?_)
          refine lv_goto (tgt := 12) hx hb dX2_beginJob_39 (by decide) ?_
          have hP : va_P E.1 vwCl (wSt E q jb jr lf jf rd vr (gU G1 i1 (xNJ (G1 i1)))) H := zP_perm hP (wF_perm (g := i1) (by omega))
          have hD : va_D A (wSt E q jb jr lf jf rd vr (gU G1 i1 (xNJ (G1 i1)))) := zD_perm hD (wF_perm (g := i1) (by omega))
          exact ih12 (6 - (i1 + 1) : Int).toNat (by omega) (gU G1 i1 (xNJ (G1 i1))) (i1 + 1) (by omega) (by rw [itr_step (by omega), ← hi12_0]) (by omega) _ _ ls hP hD hS (lv_sub hl [0, 1] rfl)
    exact hloop12 (6 - 0 : Int).toNat G 0 (by omega) (rfl) (by omega) _ _ ls hP hD hS (lv_sub hl [0, 1] rfl)
  · refine lv_bipush (v := iI (-5)) hx hb dX2_beginJob_7 (by decide) ?_
    have eqc_jb : (if jr = 0 then jb + 1 else jb) = jb := by (first | rw [if_pos (by omega)] | rw [if_neg (by omega)])
    have eqc_jr : (if jr = 0 then 1 else jr) = jr := by (first | rw [if_pos (by omega)] | rw [if_neg (by omega)])
    have eqc_G : (if jr = 0 then sSt (sNJ G) else G) = G := by (first | rw [if_pos (by omega)] | rw [if_neg (by omega)]); all_goals (rw [hnj])
    have hP : va_P E.1 vwCl (wSt E q (if jr = 0 then jb + 1 else jb) (if jr = 0 then 1 else jr) lf jf rd vr (if jr = 0 then sSt (sNJ G) else G)) s.heap := by rw [eqc_jb, eqc_jr, eqc_G]; exact hP
    have hD : va_D A (wSt E q (if jr = 0 then jb + 1 else jb) (if jr = 0 then 1 else jr) lf jf rd vr (if jr = 0 then sSt (sNJ G) else G)) := by rw [eqc_jb, eqc_jr, eqc_G]; exact hD
    exact z_iret hx hb hr hlocks hK hS () (by (repeat (first | with_reducible rfl | rw [if_pos (by omega)] | rw [if_neg (by omega)]))) hP hD dX2_beginJob_9

theorem ndX2_repeatJob : yX2_repeatJob.cls = RX2 ∧ yX2_repeatJob.cls ≠ "java/lang/invoke/MethodHandle" ∧ yX2_repeatJob.cls ≠ "java/lang/invoke/VarHandle" ∧ (parseMethodDescriptor yX2_repeatJob.desc).map (fun d => d.parameters.length) = some 0 := by decide +kernel
set_option maxRecDepth 100000 in
set_option maxHeartbeats 1000000 in
theorem c_X2_repeatJob (l : Launch) (E : zE) (q : Nat → Nat) (jb jr lf jf rd vr : Int) (G : Int → zGr) (h0 : jr = 0 ∨ jr = 1) (h1 : lf = 0 ∨ lf = 1) : zF l E yX2_repeatJob wsX2_repeatJob 1 21 [.ref (q 0)] (wSt E q jb jr lf jf rd vr G) (if jr = 0 ∧ ¬ lf = 0 then jb + 1 else -5) (wSt E q (if jr = 0 ∧ ¬ lf = 0 then jb + 1 else jb) (if jr = 0 ∧ ¬ lf = 0 then 1 else jr) lf jf rd vr (if jr = 0 ∧ ¬ lf = 0 then sSt G else G)) := by
  refine zC_of (cc := cX2_repeatJob) (maxL := 1) (by decide) rfl (Nat.le_of_ble_eq_true rfl) ?_
  intro p e s m below meth c ls A hx hb hr hts hown hlocks hml hK hA hS hP hD hl
  have hown : s.vm.findClass RX2 = some m.cls := hown
  have hl : lv_has ls 1 [(0, .ref (q 0))] := hl
  have hinX2 : ∀ v ∈ u_ws RX2 TX2 7, v ∈ wsX2_repeatJob := by decide +kernel
  have hf_21 := hts (.fieldLink RX2 21 "GenerationNames$State" "jobRuns" "Z") (by decide +kernel)
  have hf_25 := hts (.fieldLink RX2 25 "GenerationNames$State" "lastJobFailed" "Z") (by decide +kernel)
  refine lv_aload_n hx hb dX2_repeatJob_0 rfl (lv_at hl 0 rfl) ?_
  refine va_get (D := E.1) (cl := vwCl) (ci := 2) (v := .int (iI jr)) (C := RX2) (T := TX2) (N := 7) hx hb hts hinX2 hown hK hP 0 rfl rfl 2 (by decide) hf_21 (fun _ h => h) rfl dX2_repeatJob_1 ?_
  refine z_if_ne (tgt := 14) hx hb dX2_repeatJob_4 (by decide) ⟨by omega, by omega⟩ (fun c_4 => ?_) (fun c_4 => ?_)
  · refine lv_bipush (v := iI (-5)) hx hb dX2_repeatJob_14 (by decide) ?_
    have eqc_jb : (if jr = 0 ∧ ¬ lf = 0 then jb + 1 else jb) = jb := by (first | rw [if_pos (by omega)] | rw [if_neg (by omega)])
    have eqc_jr : (if jr = 0 ∧ ¬ lf = 0 then 1 else jr) = jr := by (first | rw [if_pos (by omega)] | rw [if_neg (by omega)])
    have eqc_G : (if jr = 0 ∧ ¬ lf = 0 then sSt G else G) = G := by (first | rw [if_pos (by omega)] | rw [if_neg (by omega)])
    have hP : va_P E.1 vwCl (wSt E q (if jr = 0 ∧ ¬ lf = 0 then jb + 1 else jb) (if jr = 0 ∧ ¬ lf = 0 then 1 else jr) lf jf rd vr (if jr = 0 ∧ ¬ lf = 0 then sSt G else G)) s.heap := by rw [eqc_jb, eqc_jr, eqc_G]; exact hP
    have hD : va_D A (wSt E q (if jr = 0 ∧ ¬ lf = 0 then jb + 1 else jb) (if jr = 0 ∧ ¬ lf = 0 then 1 else jr) lf jf rd vr (if jr = 0 ∧ ¬ lf = 0 then sSt G else G)) := by rw [eqc_jb, eqc_jr, eqc_G]; exact hD
    exact z_iret hx hb hr hlocks hK hS () (by (repeat (first | with_reducible rfl | rw [if_pos (by omega)] | rw [if_neg (by omega)]))) hP hD dX2_repeatJob_16
  · refine lv_aload_n hx hb dX2_repeatJob_7 rfl (lv_at hl 0 rfl) ?_
    refine va_get (D := E.1) (cl := vwCl) (ci := 2) (v := .int (iI lf)) (C := RX2) (T := TX2) (N := 7) hx hb hts hinX2 hown hK hP 0 rfl rfl 3 (by decide) hf_25 (fun _ h => h) rfl dX2_repeatJob_8 ?_
    refine z_if_ne (tgt := 17) hx hb dX2_repeatJob_11 (by decide) ⟨by omega, by omega⟩ (fun c_11 => ?_) (fun c_11 => ?_)
    · refine lv_aload_n hx hb dX2_repeatJob_17 rfl (lv_at hl 0 rfl) ?_
      refine z_callV0 (ci := 2) (qk := 0) (As := []) (rest := []) hx hb hml hown hts hK hA hl.1 hP hD hS (c_X2_startJob l E q jb jr lf jf rd vr G   ) gX2_repeatJob_X2_startJob rfl ndX2_startJob ⟨Nat.le_of_ble_eq_true rfl, Nat.le_of_ble_eq_true rfl⟩ rfl rfl rfl rfl rfl (Nat.le_of_ble_eq_true rfl) dX2_repeatJob_18 ⟨Nat.le_of_ble_eq_true rfl, Nat.le_of_ble_eq_true rfl⟩ (fun x u H locs hpost hP hD hS => ?_)
      subst hpost
      have hP : va_P E.1 vwCl (wSt E q (jb + 1) 1 lf jf rd vr (sSt G)) H := hP
      have hD : va_D A (wSt E q (jb + 1) 1 lf jf rd vr (sSt G)) := hD
      have eqc_jb : (if jr = 0 ∧ ¬ lf = 0 then jb + 1 else jb) = jb + 1 := by (first | rw [if_pos (by omega)] | rw [if_neg (by omega)])
      have eqc_jr : (if jr = 0 ∧ ¬ lf = 0 then 1 else jr) = 1 := by (first | rw [if_pos (by omega)] | rw [if_neg (by omega)])
      have eqc_G : (if jr = 0 ∧ ¬ lf = 0 then sSt G else G) = sSt G := by (first | rw [if_pos (by omega)] | rw [if_neg (by omega)])
      have hP : va_P E.1 vwCl (wSt E q (if jr = 0 ∧ ¬ lf = 0 then jb + 1 else jb) (if jr = 0 ∧ ¬ lf = 0 then 1 else jr) lf jf rd vr (if jr = 0 ∧ ¬ lf = 0 then sSt G else G)) H := by rw [eqc_jb, eqc_jr, eqc_G]; exact hP
      have hD : va_D A (wSt E q (if jr = 0 ∧ ¬ lf = 0 then jb + 1 else jb) (if jr = 0 ∧ ¬ lf = 0 then 1 else jr) lf jf rd vr (if jr = 0 ∧ ¬ lf = 0 then sSt G else G)) := by rw [eqc_jb, eqc_jr, eqc_G]; exact hD
      exact z_iret hx hb hr hlocks hK hS () (by (repeat (first | with_reducible rfl | rw [if_pos (by omega)] | rw [if_neg (by omega)]))) hP hD dX2_repeatJob_21
    · refine lv_bipush (v := iI (-5)) hx hb dX2_repeatJob_14 (by decide) ?_
      have eqc_jb : (if jr = 0 ∧ ¬ lf = 0 then jb + 1 else jb) = jb := by (first | rw [if_pos (by omega)] | rw [if_neg (by omega)])
      have eqc_jr : (if jr = 0 ∧ ¬ lf = 0 then 1 else jr) = jr := by (first | rw [if_pos (by omega)] | rw [if_neg (by omega)])
      have eqc_G : (if jr = 0 ∧ ¬ lf = 0 then sSt G else G) = G := by (first | rw [if_pos (by omega)] | rw [if_neg (by omega)])
      have hP : va_P E.1 vwCl (wSt E q (if jr = 0 ∧ ¬ lf = 0 then jb + 1 else jb) (if jr = 0 ∧ ¬ lf = 0 then 1 else jr) lf jf rd vr (if jr = 0 ∧ ¬ lf = 0 then sSt G else G)) s.heap := by rw [eqc_jb, eqc_jr, eqc_G]; exact hP
      have hD : va_D A (wSt E q (if jr = 0 ∧ ¬ lf = 0 then jb + 1 else jb) (if jr = 0 ∧ ¬ lf = 0 then 1 else jr) lf jf rd vr (if jr = 0 ∧ ¬ lf = 0 then sSt G else G)) := by rw [eqc_jb, eqc_jr, eqc_G]; exact hD
      exact z_iret hx hb hr hlocks hK hS () (by (repeat (first | with_reducible rfl | rw [if_pos (by omega)] | rw [if_neg (by omega)]))) hP hD dX2_repeatJob_16

theorem ndX2_endJob : yX2_endJob.cls = RX2 ∧ yX2_endJob.cls ≠ "java/lang/invoke/MethodHandle" ∧ yX2_endJob.cls ≠ "java/lang/invoke/VarHandle" ∧ (parseMethodDescriptor yX2_endJob.desc).map (fun d => d.parameters.length) = some 1 := by decide +kernel
set_option maxRecDepth 100000 in
set_option maxHeartbeats 1000000 in
theorem c_X2_endJob (l : Launch) (E : zE) (q : Nat → Nat) (jb jr lf jf rd vr : Int) (G : Int → zGr) (w : Int) (h0 : rg w) (h1 : SI G) (h2 : jr = 0 ∨ jr = 1) : zF l E yX2_endJob wsX2_endJob 3 64 [.ref (q 0), .int (iI w)] (wSt E q jb jr lf jf rd vr G) (if ¬ (0 ≤ w ∧ w ≤ 1) then -2 else if jr = 0 then -5 else sMd jr (sFl (if w = 0 then 1 else 0) G)) (wSt E q jb (if 0 ≤ w ∧ w ≤ 1 ∧ ¬ jr = 0 then 0 else jr) (if 0 ≤ w ∧ w ≤ 1 ∧ ¬ jr = 0 then (if w = 0 then 1 else 0) else lf) (if 0 ≤ w ∧ w ≤ 1 ∧ ¬ jr = 0 ∧ w = 0 then jf + 1 else jf) rd vr (if 0 ≤ w ∧ w ≤ 1 ∧ ¬ jr = 0 then sFl (if w = 0 then 1 else 0) G else G)) := by
  have hsi := h1
  refine zC_of (cc := cX2_endJob) (maxL := 3) (by decide) rfl (Nat.le_of_ble_eq_true rfl) ?_
  intro p e s m below meth c ls A hx hb hr hts hown hlocks hml hK hA hS hP hD hl
  have hown : s.vm.findClass RX2 = some m.cls := hown
  have hl : lv_has ls 3 [(0, .ref (q 0)), (1, .int (iI w))] := hl
  have hinX2 : ∀ v ∈ u_ws RX2 TX2 7, v ∈ wsX2_endJob := by decide +kernel
  have hinX0 : ∀ v ∈ u_ws RX0 TX0 10, v ∈ wsX2_endJob := by decide +kernel
  have hf_21 := hts (.fieldLink RX2 21 "GenerationNames$State" "jobRuns" "Z") (by decide +kernel)
  have hf_25 := hts (.fieldLink RX2 25 "GenerationNames$State" "lastJobFailed" "Z") (by decide +kernel)
  have hf_28 := hts (.fieldLink RX2 28 "GenerationNames$State" "jobsFailed" "I") (by decide +kernel)
  have hf_11 := hts (.fieldLink RX2 11 "GenerationNames$State" "groups" "[LGenerationNames$Group;") (by decide +kernel)
  have hf_53 := hts (.fieldLink RX2 53 "GenerationNames$Group" "madeByJob" "I") (by decide +kernel)
  refine lv_iload_n hx hb dX2_endJob_0 rfl (lv_at hl 1 rfl) ?_
  refine z_if_eq (tgt := 12) hx hb dX2_endJob_1 (by decide) ⟨by omega, by omega⟩ (fun c_1 => ?_) (fun c_1 => ?_)
  · refine lv_aload_n hx hb dX2_endJob_12 rfl (lv_at hl 0 rfl) ?_
    refine va_get (D := E.1) (cl := vwCl) (ci := 2) (v := .int (iI jr)) (C := RX2) (T := TX2) (N := 7) hx hb hts hinX2 hown hK hP 0 rfl rfl 2 (by decide) hf_21 (fun _ h => h) rfl dX2_endJob_13 ?_
    refine z_if_ne (tgt := 22) hx hb dX2_endJob_16 (by decide) ⟨by omega, by omega⟩ (fun c_16 => ?_) (fun c_16 => ?_)
    · refine lv_aload_n hx hb dX2_endJob_22 rfl (lv_at hl 0 rfl) ?_
      refine lv_iload_n hx hb dX2_endJob_23 rfl (lv_at hl 1 rfl) ?_
      refine z_if_ne (tgt := 31) hx hb dX2_endJob_24 (by decide) ⟨by omega, by omega⟩ (fun c_24 => absurd c_24 (by omega)) (fun c_24 => ?_)
      refine lv_iconst (v := iI 1) hx hb dX2_endJob_27 (by decide) ?_
      refine lv_goto (tgt := 32) hx hb dX2_endJob_28 (by decide) ?_
      refine va_put (D := E.1) (cl := vwCl) (ci := 2) (v := .int (iI 1)) (ty := .boolean) (C := RX2) (T := TX2) (N := 7) hx hb hts hinX2 tyX2 tyX2_ok nmX2 hown hK hP hD hS 0 rfl rfl 3 (by decide) hf_25 (fun _ h => h) rfl (by decide +kernel) (rfl) (rfl) (Nat.le_of_ble_eq_true rfl) dX2_endJob_32 (fun H locs hP hD hS => ?_)
      have hP : va_P E.1 vwCl (wSt E q jb jr 1 jf rd vr G) H := hP
      have hD : va_D A (wSt E q jb jr 1 jf rd vr G) := hD
      refine lv_aload_n hx hb dX2_endJob_35 rfl (lv_at hl 0 rfl) ?_
      refine va_get (D := E.1) (cl := vwCl) (ci := 2) (v := .int (iI 1)) (C := RX2) (T := TX2) (N := 7) hx hb hts hinX2 hown hK hP 0 rfl rfl 3 (by decide) hf_25 (fun _ h => h) rfl dX2_endJob_36 ?_
      refine z_if_eq (tgt := 52) hx hb dX2_endJob_39 (by decide) ⟨by omega, by omega⟩ (fun c_39 => absurd c_39 (by omega)) (fun c_39 => ?_)
      refine lv_aload_n hx hb dX2_endJob_42 rfl (lv_at hl 0 rfl) ?_
      refine lv_dup hx hb dX2_endJob_43 rfl ?_
      refine va_get (D := E.1) (cl := vwCl) (ci := 2) (v := .int (iI jf)) (C := RX2) (T := TX2) (N := 7) hx hb hts hinX2 hown hK hP 0 rfl rfl 4 (by decide) hf_28 (fun _ h => h) rfl dX2_endJob_44 ?_
      refine lv_iconst (v := iI 1) hx hb dX2_endJob_47 (by decide) ?_
      refine z_iadd hx hb dX2_endJob_48 ?_
      refine va_put (D := E.1) (cl := vwCl) (ci := 2) (v := .int (iI (jf + 1))) (ty := .int) (C := RX2) (T := TX2) (N := 7) hx hb hts hinX2 tyX2 tyX2_ok nmX2 hown hK hP hD hS 0 rfl rfl 4 (by decide) hf_28 (fun _ h => h) rfl (by decide +kernel) (rfl) (rfl) (Nat.le_of_ble_eq_true rfl) dX2_endJob_49 (fun H locs hP hD hS => ?_)
      have hP : va_P E.1 vwCl (wSt E q jb jr 1 (jf + 1) rd vr G) H := hP
      have hD : va_D A (wSt E q jb jr 1 (jf + 1) rd vr G) := hD
      refine lv_iconst (v := iI 0) hx hb dX2_endJob_52 (by decide) ?_
      refine lv_istore_n (lv' := [(2, .int (iI 0)), (0, .ref (q 0)), (1, .int (iI w))]) hx hb dX2_endJob_53 rfl hl (by decide) rfl (fun ls hl => ?_)
      have hloop54 : ∀ (n : Nat) (G1 : Int → zGr) (i1 : Int) (hmu : 6 - i1 = (n : Int)) (hi54_0 : G1 = itr (fun g Y => if (1 : Int) = 1 ∧ thP (Y g 0 1) (Y g 0 2) (Y g 1) (Y g 0 6) then gU Y g (xHo (Y g) (Y g 0 6)) else Y) G (i1).toNat) (hi54_1 : 0 ≤ i1 ∧ i1 ≤ 6) (hi54_2 : SI G1) (H : Heap) (locs : List Loc) (ls : Array Slot), va_P E.1 vwCl (wSt E q jb jr 1 (jf + 1) rd vr G1) H → va_D A (wSt E q jb jr 1 (jf + 1) rd vr G1) → va_S A s.heap H locs → lv_has ls 3 [(2, .int (iI i1)), (0, .ref (q 0)), (1, .int (iI w))] → W p l e (zR 3 64) s m ([.ref (q 0), .int (iI w)] : List Value).toArray below meth c H locs 0 0 (MQ below (zQ E A (S := Unit) (fun x _ => x = (if ¬ (0 ≤ w ∧ w ≤ 1) then -2 else if jr = 0 then -5 else sMd jr (sFl (if w = 0 then 1 else 0) G))) (fun _ => wSt E q jb (if 0 ≤ w ∧ w ≤ 1 ∧ ¬ jr = 0 then 0 else jr) (if 0 ≤ w ∧ w ≤ 1 ∧ ¬ jr = 0 then (if w = 0 then 1 else 0) else lf) (if 0 ≤ w ∧ w ≤ 1 ∧ ¬ jr = 0 ∧ w = 0 then jf + 1 else jf) rd vr (if 0 ≤ w ∧ w ≤ 1 ∧ ¬ jr = 0 then sFl (if w = 0 then 1 else 0) G else G))) ([.ref (q 0), .int (iI w)] : List Value).toArray s 0 0 A) (F0 m 54 ls []) := by
        intro n
        induction n using Nat.strongRecOn with
        | ind n ih54 =>
          intro G1 i1 hmu54 hi54_0 hi54_1 hi54_2 H locs ls hP hD hS hl
          have hsi := hi54_2
          refine lv_iload_n hx hb dX2_endJob_54 rfl (lv_at hl 0 rfl) ?_
          refine lv_bipush (v := iI 6) hx hb dX2_endJob_55 (by decide) ?_
          refine z_icmp_ge (tgt := 112) hx hb dX2_endJob_57 (by decide) ⟨by omega, by omega⟩ ⟨by omega, by omega⟩ (fun c_57 => ?_) (fun c_57 => ?_)
          · refine lv_aload_n hx hb dX2_endJob_112 rfl (lv_at hl 1 rfl) ?_
            have hsf : sFl (if w = 0 then 1 else 0) G = G1 := by (first | rw [if_pos (by omega)] | rw [if_neg (by omega)]); rw [hi54_0, show i1 = 6 by omega]; rfl
            refine z_callV0 (ci := 2) (qk := 0) (As := []) (rest := []) hx hb hml hown hts hK hA hl.1 hP hD hS (c_X2_countMadeByJob l E q jb jr 1 (jf + 1) rd vr G1   (by first | omega | exact hx3 | exact hx3 _ (by omega) (by omega) | exact ⟨by omega, by omega⟩ | exact hsi) (by first | omega | exact hx3 | exact hx3 _ (by omega) (by omega) | exact ⟨by omega, by omega⟩ | exact hsi)) gX2_endJob_X2_countMadeByJob rfl ndX2_countMadeByJob ⟨Nat.le_of_ble_eq_true rfl, Nat.le_of_ble_eq_true rfl⟩ rfl rfl rfl rfl rfl (Nat.le_of_ble_eq_true rfl) dX2_endJob_113 ⟨Nat.le_of_ble_eq_true rfl, Nat.le_of_ble_eq_true rfl⟩ (fun x u H locs hpost hP hD hS => ?_)
            subst hpost
            have hP : va_P E.1 vwCl (wSt E q jb jr 1 (jf + 1) rd vr G1) H := hP
            have hD : va_D A (wSt E q jb jr 1 (jf + 1) rd vr G1) := hD
            refine lv_istore_n (lv' := [(2, .int (iI (sMd jr G1))), (0, .ref (q 0)), (1, .int (iI w))]) hx hb dX2_endJob_116 rfl hl (by decide) rfl (fun ls hl => ?_)
            refine lv_aload_n hx hb dX2_endJob_117 rfl (lv_at hl 1 rfl) ?_
            refine lv_iconst (v := iI 0) hx hb dX2_endJob_118 (by decide) ?_
            refine va_put (D := E.1) (cl := vwCl) (ci := 2) (v := .int (iI 0)) (ty := .boolean) (C := RX2) (T := TX2) (N := 7) hx hb hts hinX2 tyX2 tyX2_ok nmX2 hown hK hP hD hS 0 rfl rfl 2 (by decide) hf_21 (fun _ h => h) rfl (by decide +kernel) (rfl) (rfl) (Nat.le_of_ble_eq_true rfl) dX2_endJob_119 (fun H locs hP hD hS => ?_)
            have hP : va_P E.1 vwCl (wSt E q jb 0 1 (jf + 1) rd vr G1) H := hP
            have hD : va_D A (wSt E q jb 0 1 (jf + 1) rd vr G1) := hD
            refine lv_iload_n hx hb dX2_endJob_122 rfl (lv_at hl 0 rfl) ?_
            have eqc_jr : (if 0 ≤ w ∧ w ≤ 1 ∧ ¬ jr = 0 then 0 else jr) = 0 := by (first | rw [if_pos (by omega)] | rw [if_neg (by omega)])
            have eqc_lf : (if 0 ≤ w ∧ w ≤ 1 ∧ ¬ jr = 0 then (if w = 0 then 1 else 0) else lf) = 1 := by (repeat (first | with_reducible rfl | rw [if_pos (by omega)] | rw [if_neg (by omega)]))
            have eqc_jf : (if 0 ≤ w ∧ w ≤ 1 ∧ ¬ jr = 0 ∧ w = 0 then jf + 1 else jf) = (jf + 1) := by (first | rw [if_pos (by omega)] | rw [if_neg (by omega)])
            have eqc_G : (if 0 ≤ w ∧ w ≤ 1 ∧ ¬ jr = 0 then sFl (if w = 0 then 1 else 0) G else G) = G1 := by (first | rw [if_pos (by omega)] | rw [if_neg (by omega)]); all_goals (rw [hsf])
            have hP : va_P E.1 vwCl (wSt E q jb (if 0 ≤ w ∧ w ≤ 1 ∧ ¬ jr = 0 then 0 else jr) (if 0 ≤ w ∧ w ≤ 1 ∧ ¬ jr = 0 then (if w = 0 then 1 else 0) else lf) (if 0 ≤ w ∧ w ≤ 1 ∧ ¬ jr = 0 ∧ w = 0 then jf + 1 else jf) rd vr (if 0 ≤ w ∧ w ≤ 1 ∧ ¬ jr = 0 then sFl (if w = 0 then 1 else 0) G else G)) H := by rw [eqc_jr, eqc_lf, eqc_jf, eqc_G]; exact hP
            have hD : va_D A (wSt E q jb (if 0 ≤ w ∧ w ≤ 1 ∧ ¬ jr = 0 then 0 else jr) (if 0 ≤ w ∧ w ≤ 1 ∧ ¬ jr = 0 then (if w = 0 then 1 else 0) else lf) (if 0 ≤ w ∧ w ≤ 1 ∧ ¬ jr = 0 ∧ w = 0 then jf + 1 else jf) rd vr (if 0 ≤ w ∧ w ≤ 1 ∧ ¬ jr = 0 then sFl (if w = 0 then 1 else 0) G else G)) := by rw [eqc_jr, eqc_lf, eqc_jf, eqc_G]; exact hD
            exact z_iret hx hb hr hlocks hK hS () (by first | (rw [if_neg (show ¬ ¬ (0 ≤ w ∧ w ≤ 1) by omega), if_neg (show ¬ jr = 0 by omega), hsf]) | (repeat (first | with_reducible rfl | rw [if_pos (by omega)] | rw [if_neg (by omega)]))) hP hD dX2_endJob_123
          · refine lv_aload_n hx hb dX2_endJob_60 rfl (lv_at hl 1 rfl) ?_
            refine va_get (D := E.1) (cl := vwCl) (ci := 2) (v := .int (iI 1)) (C := RX2) (T := TX2) (N := 7) hx hb hts hinX2 hown hK hP 0 rfl rfl 3 (by decide) hf_25 (fun _ h => h) rfl dX2_endJob_61 ?_
            refine z_if_eq (tgt := 106) hx hb dX2_endJob_64 (by decide) ⟨by omega, by omega⟩ (fun c_64 => absurd c_64 (by omega)) (fun c_64 => ?_)
            refine lv_aload_n hx hb dX2_endJob_67 rfl (lv_at hl 1 rfl) ?_
            refine va_get (D := E.1) (cl := vwCl) (ci := 2) (v := .ref (q 1)) (C := RX2) (T := TX2) (N := 7) hx hb hts hinX2 hown hK hP 0 rfl rfl 0 (by decide) hf_11 (fun _ h => h) rfl dX2_endJob_68 ?_
            refine lv_iload_n hx hb dX2_endJob_71 rfl (lv_at hl 0 rfl) ?_
            refine z_aald (D := E.1) (cl := vwCl) (tys := zT E) (f := fun j : Nat => q (2 + 4 * j)) hx hb hK hP 1 3 rfl rfl (by omega) (by omega) (by omega) dX2_endJob_72 ?_
            refine W.eq (g2 := F0 m 73 ls [.ref (gq q i1 0)]) rfl ?_
            have hP := zP_perm hP (wS_perm (g := i1) (by omega))
            have hD := zD_perm hD (wS_perm (g := i1) (by omega))
            obtain ⟨hx1, hx2, hx3, hx4, hx5, hx6⟩ := hsi i1 (by omega) (by omega)
            have hP : va_P E.1 vwCl (wF E q i1 (wR E q G1 i1) jb jr 1 (jf + 1) rd vr (G1 i1 0 0) (G1 i1 0 1) (G1 i1 0 2) (G1 i1 0 3) (G1 i1 0 4) (G1 i1 0 5) (G1 i1 0 6) (G1 i1 1) (G1 i1 2) (G1 i1 3)) H := hP
            have hD : va_D A (wF E q i1 (wR E q G1 i1) jb jr 1 (jf + 1) rd vr (G1 i1 0 0) (G1 i1 0 1) (G1 i1 0 2) (G1 i1 0 3) (G1 i1 0 4) (G1 i1 0 5) (G1 i1 0 6) (G1 i1 1) (G1 i1 2) (G1 i1 3)) := hD
            refine lv_aload_n hx hb dX2_endJob_73 rfl (lv_at hl 1 rfl) ?_
            refine va_get (D := E.1) (cl := vwCl) (ci := 2) (v := .ref (q 1)) (C := RX2) (T := TX2) (N := 7) hx hb hts hinX2 hown hK hP 0 rfl rfl 0 (by decide) hf_11 (fun _ h => h) rfl dX2_endJob_74 ?_
            refine lv_iload_n hx hb dX2_endJob_77 rfl (lv_at hl 0 rfl) ?_
            refine z_aald (D := E.1) (cl := vwCl) (tys := zT E) (f := fun j : Nat => q (2 + 4 * j)) hx hb hK hP 1 3 rfl rfl (by omega) (by omega) (by omega) dX2_endJob_78 ?_
            refine W.eq (g2 := F0 m 79 ls [.ref (gq q i1 0), .ref (gq q i1 0)]) rfl ?_
            have hP : va_P E.1 vwCl (wF E q i1 (wR E q G1 i1) jb jr 1 (jf + 1) rd vr (G1 i1 0 0) (G1 i1 0 1) (G1 i1 0 2) (G1 i1 0 3) (G1 i1 0 4) (G1 i1 0 5) (G1 i1 0 6) (G1 i1 1) (G1 i1 2) (G1 i1 3)) H := hP
            have hD : va_D A (wF E q i1 (wR E q G1 i1) jb jr 1 (jf + 1) rd vr (G1 i1 0 0) (G1 i1 0 1) (G1 i1 0 2) (G1 i1 0 3) (G1 i1 0 4) (G1 i1 0 5) (G1 i1 0 6) (G1 i1 1) (G1 i1 2) (G1 i1 3)) := hD
            refine va_get (D := E.1) (cl := vwCl) (ci := 0) (v := .int (iI (G1 i1 0 6))) (C := RX0) (T := TX0) (N := 10) hx hb hts hinX0 hown hK hP 2 rfl rfl 6 (by decide) hf_53 (fun _ h => h) rfl dX2_endJob_79 ?_
            refine z_callM (w0 := wS2 E q jb jr 1 (jf + 1) rd vr) (ci := 0) (qk := 0) (As := [.int (iI (G1 i1 0 6))]) (rest := []) hx hb hml hown hts hK hA hl.1 hP hD hS (c_X0_isThere l E (gq q i1) (G1 i1 1) (G1 i1 2) (G1 i1 3) (G1 i1 0 0) (G1 i1 0 1) (G1 i1 0 2) (G1 i1 0 3) (G1 i1 0 4) (G1 i1 0 5) (G1 i1 0 6) (G1 i1 0 6)  (by first | omega | exact hx3 | exact hx3 _ (by omega) (by omega) | exact ⟨by omega, by omega⟩ | exact hsi) (by first | omega | exact hx3 | exact hx3 _ (by omega) (by omega) | exact ⟨by omega, by omega⟩ | exact hsi) (by first | omega | exact hx3 | exact hx3 _ (by omega) (by omega) | exact ⟨by omega, by omega⟩ | exact hsi) (by first | omega | exact hx3 | exact hx3 _ (by omega) (by omega) | exact ⟨by omega, by omega⟩ | exact hsi)) gX2_endJob_X0_isThere rfl ndX0_isThere ⟨Nat.le_of_ble_eq_true rfl, Nat.le_of_ble_eq_true rfl⟩ rfl rfl rfl rfl rfl (Nat.le_of_ble_eq_true rfl) dX2_endJob_82 ⟨Nat.le_of_ble_eq_true rfl, Nat.le_of_ble_eq_true rfl⟩ (fun x u H locs hpost hP hD hS => ?_)
            subst hpost
            have hP : va_P E.1 vwCl (wF E q i1 (wR E q G1 i1) jb jr 1 (jf + 1) rd vr (G1 i1 0 0) (G1 i1 0 1) (G1 i1 0 2) (G1 i1 0 3) (G1 i1 0 4) (G1 i1 0 5) (G1 i1 0 6) (G1 i1 1) (G1 i1 2) (G1 i1 3)) H := hP
            have hD : va_D A (wF E q i1 (wR E q G1 i1) jb jr 1 (jf + 1) rd vr (G1 i1 0 0) (G1 i1 0 1) (G1 i1 0 2) (G1 i1 0 3) (G1 i1 0 4) (G1 i1 0 5) (G1 i1 0 6) (G1 i1 1) (G1 i1 2) (G1 i1 3)) := hD
            refine z_ifb_eq (tgt := 106) hx hb dX2_endJob_85 (by decide) (fun c_85 => ?_) (fun c_85 => ?_)
            · refine lv_iinc (v := iI (i1 + 1)) (lv' := [(2, .int (iI (i1 + 1))), (0, .ref (q 0)), (1, .int (iI w))]) hx hb dX2_endJob_106 hl (k := 0) rfl (iI_add _ _) (by decide) rfl (fun ls hl => ?_)
              refine lv_goto (tgt := 54) hx hb dX2_endJob_109 (by decide) ?_
              have hP : va_P E.1 vwCl (wSt E q jb jr 1 (jf + 1) rd vr G1) H := zP_perm hP (wS_perm (g := i1) (by omega)).symm
              have hD : va_D A (wSt E q jb jr 1 (jf + 1) rd vr G1) := zD_perm hD (wS_perm (g := i1) (by omega)).symm
              exact ih54 (6 - (i1 + 1) : Int).toNat (by omega) G1 (i1 + 1) (by omega) (by rw [itr_step (by omega), ← hi54_0]; first | rw [if_pos (by omega)] | rw [if_neg (by omega)]) (by omega) (by first | exact hsi | exact SI_gU hsi (XI_xHo (hsi i1 (by omega) (by omega)))) _ _ ls hP hD hS (lv_sub hl [0, 1, 2] rfl)
            · refine lv_aload_n hx hb dX2_endJob_88 rfl (lv_at hl 1 rfl) ?_
              refine va_get (D := E.1) (cl := vwCl) (ci := 2) (v := .ref (q 1)) (C := RX2) (T := TX2) (N := 7) hx hb hts hinX2 hown hK hP 0 rfl rfl 0 (by decide) hf_11 (fun _ h => h) rfl dX2_endJob_89 ?_
              refine lv_iload_n hx hb dX2_endJob_92 rfl (lv_at hl 0 rfl) ?_
              refine z_aald (D := E.1) (cl := vwCl) (tys := zT E) (f := fun j : Nat => q (2 + 4 * j)) hx hb hK hP 1 3 rfl rfl (by omega) (by omega) (by omega) dX2_endJob_93 ?_
              refine W.eq (g2 := F0 m 94 ls [.ref (gq q i1 0)]) rfl ?_
              have hP : va_P E.1 vwCl (wF E q i1 (wR E q G1 i1) jb jr 1 (jf + 1) rd vr (G1 i1 0 0) (G1 i1 0 1) (G1 i1 0 2) (G1 i1 0 3) (G1 i1 0 4) (G1 i1 0 5) (G1 i1 0 6) (G1 i1 1) (G1 i1 2) (G1 i1 3)) H := hP
              have hD : va_D A (wF E q i1 (wR E q G1 i1) jb jr 1 (jf + 1) rd vr (G1 i1 0 0) (G1 i1 0 1) (G1 i1 0 2) (G1 i1 0 3) (G1 i1 0 4) (G1 i1 0 5) (G1 i1 0 6) (G1 i1 1) (G1 i1 2) (G1 i1 3)) := hD
              refine lv_aload_n hx hb dX2_endJob_94 rfl (lv_at hl 1 rfl) ?_
              refine va_get (D := E.1) (cl := vwCl) (ci := 2) (v := .ref (q 1)) (C := RX2) (T := TX2) (N := 7) hx hb hts hinX2 hown hK hP 0 rfl rfl 0 (by decide) hf_11 (fun _ h => h) rfl dX2_endJob_95 ?_
              refine lv_iload_n hx hb dX2_endJob_98 rfl (lv_at hl 0 rfl) ?_
              refine z_aald (D := E.1) (cl := vwCl) (tys := zT E) (f := fun j : Nat => q (2 + 4 * j)) hx hb hK hP 1 3 rfl rfl (by omega) (by omega) (by omega) dX2_endJob_99 ?_
              refine W.eq (g2 := F0 m 100 ls [.ref (gq q i1 0), .ref (gq q i1 0)]) rfl ?_
              have hP : va_P E.1 vwCl (wF E q i1 (wR E q G1 i1) jb jr 1 (jf + 1) rd vr (G1 i1 0 0) (G1 i1 0 1) (G1 i1 0 2) (G1 i1 0 3) (G1 i1 0 4) (G1 i1 0 5) (G1 i1 0 6) (G1 i1 1) (G1 i1 2) (G1 i1 3)) H := hP
              have hD : va_D A (wF E q i1 (wR E q G1 i1) jb jr 1 (jf + 1) rd vr (G1 i1 0 0) (G1 i1 0 1) (G1 i1 0 2) (G1 i1 0 3) (G1 i1 0 4) (G1 i1 0 5) (G1 i1 0 6) (G1 i1 1) (G1 i1 2) (G1 i1 3)) := hD
              refine va_get (D := E.1) (cl := vwCl) (ci := 0) (v := .int (iI (G1 i1 0 6))) (C := RX0) (T := TX0) (N := 10) hx hb hts hinX0 hown hK hP 2 rfl rfl 6 (by decide) hf_53 (fun _ h => h) rfl dX2_endJob_100 ?_
              refine z_callMv (w0 := wS2 E q jb jr 1 (jf + 1) rd vr) (ci := 0) (qk := 0) (As := [.int (iI (G1 i1 0 6))]) (rest := []) hx hb hml hown hts hK hA hl.1 hP hD hS (c_X0_makeHole l E (gq q i1) (G1 i1 1) (G1 i1 2) (G1 i1 3) (G1 i1 0 0) (G1 i1 0 1) (G1 i1 0 2) (G1 i1 0 3) (G1 i1 0 4) (G1 i1 0 5) (G1 i1 0 6) (G1 i1 0 6)  (by first | omega | exact hx3 | exact hx3 _ (by omega) (by omega) | exact ⟨by omega, by omega⟩ | exact hsi) (by first | omega | exact hx3 | exact hx3 _ (by omega) (by omega) | exact ⟨by omega, by omega⟩ | exact hsi) (by first | omega | exact hx3 | exact hx3 _ (by omega) (by omega) | exact ⟨by omega, by omega⟩ | exact hsi) (by first | omega | exact hx3 | exact hx3 _ (by omega) (by omega) | exact ⟨by omega, by omega⟩ | exact hsi)) gX2_endJob_X0_makeHole rfl ndX0_makeHole ⟨Nat.le_of_ble_eq_true rfl, Nat.le_of_ble_eq_true rfl⟩ rfl rfl rfl rfl rfl (Nat.le_of_ble_eq_true rfl) dX2_endJob_103 ⟨Nat.le_of_ble_eq_true rfl, Nat.le_of_ble_eq_true rfl⟩ (fun u H locs hpost hP hD hS => ?_)
              have hP : va_P E.1 vwCl (wF E q i1 (wR E q G1 i1) jb jr 1 (jf + 1) rd vr (G1 i1 0 0) (G1 i1 0 1) ((cL (iU (G1 i1 1) ((G1 i1 0 6) % 8) (-6)) (G1 i1 0 1) (G1 i1 0 0) (G1 i1 0 2) (G1 i1 0 3)).1) ((cL (iU (G1 i1 1) ((G1 i1 0 6) % 8) (-6)) (G1 i1 0 1) (G1 i1 0 0) (G1 i1 0 2) (G1 i1 0 3)).2) ((G1 i1 0 4) + 1) (G1 i1 0 5) (G1 i1 0 6) (iU (G1 i1 1) ((G1 i1 0 6) % 8) (-6)) (G1 i1 2) (G1 i1 3)) H := hP
              have hD : va_D A (wF E q i1 (wR E q G1 i1) jb jr 1 (jf + 1) rd vr (G1 i1 0 0) (G1 i1 0 1) ((cL (iU (G1 i1 1) ((G1 i1 0 6) % 8) (-6)) (G1 i1 0 1) (G1 i1 0 0) (G1 i1 0 2) (G1 i1 0 3)).1) ((cL (iU (G1 i1 1) ((G1 i1 0 6) % 8) (-6)) (G1 i1 0 1) (G1 i1 0 0) (G1 i1 0 2) (G1 i1 0 3)).2) ((G1 i1 0 4) + 1) (G1 i1 0 5) (G1 i1 0 6) (iU (G1 i1 1) ((G1 i1 0 6) % 8) (-6)) (G1 i1 2) (G1 i1 3)) := hD
              refine lv_iinc (v := iI (i1 + 1)) (lv' := [(2, .int (iI (i1 + 1))), (0, .ref (q 0)), (1, .int (iI w))]) hx hb dX2_endJob_106 hl (k := 0) rfl (iI_add _ _) (by decide) rfl (fun ls hl => ?_)
              refine lv_goto (tgt := 54) hx hb dX2_endJob_109 (by decide) ?_
              have hP : va_P E.1 vwCl (wSt E q jb jr 1 (jf + 1) rd vr (gU G1 i1 (xHo (G1 i1) ((G1 i1) 0 6)))) H := zP_perm hP (wF_perm (g := i1) (by omega))
              have hD : va_D A (wSt E q jb jr 1 (jf + 1) rd vr (gU G1 i1 (xHo (G1 i1) ((G1 i1) 0 6)))) := zD_perm hD (wF_perm (g := i1) (by omega))
              exact ih54 (6 - (i1 + 1) : Int).toNat (by omega) (gU G1 i1 (xHo (G1 i1) ((G1 i1) 0 6))) (i1 + 1) (by omega) (by rw [itr_step (by omega), ← hi54_0]; first | rw [if_pos (by omega)] | rw [if_neg (by omega)]) (by omega) (by first | exact hsi | exact SI_gU hsi (XI_xHo (hsi i1 (by omega) (by omega)))) _ _ ls hP hD hS (lv_sub hl [0, 1, 2] rfl)
      exact hloop54 (6 - 0 : Int).toNat G 0 (by omega) (rfl) (by omega) (hsi) _ _ ls hP hD hS (lv_sub hl [0, 1, 2] rfl)
    · refine lv_bipush (v := iI (-5)) hx hb dX2_endJob_19 (by decide) ?_
      have eqc_jr : (if 0 ≤ w ∧ w ≤ 1 ∧ ¬ jr = 0 then 0 else jr) = jr := by (first | rw [if_pos (by omega)] | rw [if_neg (by omega)])
      have eqc_lf : (if 0 ≤ w ∧ w ≤ 1 ∧ ¬ jr = 0 then (if w = 0 then 1 else 0) else lf) = lf := by (repeat (first | with_reducible rfl | rw [if_pos (by omega)] | rw [if_neg (by omega)]))
      have eqc_jf : (if 0 ≤ w ∧ w ≤ 1 ∧ ¬ jr = 0 ∧ w = 0 then jf + 1 else jf) = jf := by (first | rw [if_pos (by omega)] | rw [if_neg (by omega)])
      have eqc_G : (if 0 ≤ w ∧ w ≤ 1 ∧ ¬ jr = 0 then sFl (if w = 0 then 1 else 0) G else G) = G := by (first | rw [if_pos (by omega)] | rw [if_neg (by omega)]); all_goals (rw [hsf])
      have hP : va_P E.1 vwCl (wSt E q jb (if 0 ≤ w ∧ w ≤ 1 ∧ ¬ jr = 0 then 0 else jr) (if 0 ≤ w ∧ w ≤ 1 ∧ ¬ jr = 0 then (if w = 0 then 1 else 0) else lf) (if 0 ≤ w ∧ w ≤ 1 ∧ ¬ jr = 0 ∧ w = 0 then jf + 1 else jf) rd vr (if 0 ≤ w ∧ w ≤ 1 ∧ ¬ jr = 0 then sFl (if w = 0 then 1 else 0) G else G)) s.heap := by rw [eqc_jr, eqc_lf, eqc_jf, eqc_G]; exact hP
      have hD : va_D A (wSt E q jb (if 0 ≤ w ∧ w ≤ 1 ∧ ¬ jr = 0 then 0 else jr) (if 0 ≤ w ∧ w ≤ 1 ∧ ¬ jr = 0 then (if w = 0 then 1 else 0) else lf) (if 0 ≤ w ∧ w ≤ 1 ∧ ¬ jr = 0 ∧ w = 0 then jf + 1 else jf) rd vr (if 0 ≤ w ∧ w ≤ 1 ∧ ¬ jr = 0 then sFl (if w = 0 then 1 else 0) G else G)) := by rw [eqc_jr, eqc_lf, eqc_jf, eqc_G]; exact hD
      exact z_iret hx hb hr hlocks hK hS () (by first | (rw [if_neg (show ¬ ¬ (0 ≤ w ∧ w ≤ 1) by omega), if_neg (show ¬ jr = 0 by omega), hsf]) | (repeat (first | with_reducible rfl | rw [if_pos (by omega)] | rw [if_neg (by omega)]))) hP hD dX2_endJob_21
  · refine lv_iload_n hx hb dX2_endJob_4 rfl (lv_at hl 1 rfl) ?_
    refine lv_iconst (v := iI 1) hx hb dX2_endJob_5 (by decide) ?_
    refine z_icmp_eq (tgt := 12) hx hb dX2_endJob_6 (by decide) ⟨by omega, by omega⟩ ⟨by omega, by omega⟩ (fun c_6 => ?_) (fun c_6 => ?_)
    · refine lv_aload_n hx hb dX2_endJob_12 rfl (lv_at hl 0 rfl) ?_
      refine va_get (D := E.1) (cl := vwCl) (ci := 2) (v := .int (iI jr)) (C := RX2) (T := TX2) (N := 7) hx hb hts hinX2 hown hK hP 0 rfl rfl 2 (by decide) hf_21 (fun _ h => h) rfl dX2_endJob_13 ?_
      refine z_if_ne (tgt := 22) hx hb dX2_endJob_16 (by decide) ⟨by omega, by omega⟩ (fun c_16 => ?_) (fun c_16 => ?_)
      · refine lv_aload_n hx hb dX2_endJob_22 rfl (lv_at hl 0 rfl) ?_
        refine lv_iload_n hx hb dX2_endJob_23 rfl (lv_at hl 1 rfl) ?_
        refine z_if_ne (tgt := 31) hx hb dX2_endJob_24 (by decide) ⟨by omega, by omega⟩ (fun c_24 => ?_) (fun c_24 => absurd c_24 (by omega))
        refine lv_iconst (v := iI 0) hx hb dX2_endJob_31 (by decide) ?_
        refine va_put (D := E.1) (cl := vwCl) (ci := 2) (v := .int (iI 0)) (ty := .boolean) (C := RX2) (T := TX2) (N := 7) hx hb hts hinX2 tyX2 tyX2_ok nmX2 hown hK hP hD hS 0 rfl rfl 3 (by decide) hf_25 (fun _ h => h) rfl (by decide +kernel) (rfl) (rfl) (Nat.le_of_ble_eq_true rfl) dX2_endJob_32 (fun H locs hP hD hS => ?_)
        have hP : va_P E.1 vwCl (wSt E q jb jr 0 jf rd vr G) H := hP
        have hD : va_D A (wSt E q jb jr 0 jf rd vr G) := hD
        refine lv_aload_n hx hb dX2_endJob_35 rfl (lv_at hl 0 rfl) ?_
        refine va_get (D := E.1) (cl := vwCl) (ci := 2) (v := .int (iI 0)) (C := RX2) (T := TX2) (N := 7) hx hb hts hinX2 hown hK hP 0 rfl rfl 3 (by decide) hf_25 (fun _ h => h) rfl dX2_endJob_36 ?_
        refine z_if_eq (tgt := 52) hx hb dX2_endJob_39 (by decide) ⟨by omega, by omega⟩ (fun c_39 => ?_) (fun c_39 => absurd c_39 (by omega))
        refine lv_iconst (v := iI 0) hx hb dX2_endJob_52 (by decide) ?_
        refine lv_istore_n (lv' := [(2, .int (iI 0)), (0, .ref (q 0)), (1, .int (iI w))]) hx hb dX2_endJob_53 rfl hl (by decide) rfl (fun ls hl => ?_)
        have hloop54 : ∀ (n : Nat) (G1 : Int → zGr) (i1 : Int) (hmu : 6 - i1 = (n : Int)) (hi54_0 : G1 = itr (fun g Y => if (0 : Int) = 1 ∧ thP (Y g 0 1) (Y g 0 2) (Y g 1) (Y g 0 6) then gU Y g (xHo (Y g) (Y g 0 6)) else Y) G (i1).toNat) (hi54_1 : 0 ≤ i1 ∧ i1 ≤ 6) (hi54_2 : SI G1) (H : Heap) (locs : List Loc) (ls : Array Slot), va_P E.1 vwCl (wSt E q jb jr 0 jf rd vr G1) H → va_D A (wSt E q jb jr 0 jf rd vr G1) → va_S A s.heap H locs → lv_has ls 3 [(2, .int (iI i1)), (0, .ref (q 0)), (1, .int (iI w))] → W p l e (zR 3 64) s m ([.ref (q 0), .int (iI w)] : List Value).toArray below meth c H locs 0 0 (MQ below (zQ E A (S := Unit) (fun x _ => x = (if ¬ (0 ≤ w ∧ w ≤ 1) then -2 else if jr = 0 then -5 else sMd jr (sFl (if w = 0 then 1 else 0) G))) (fun _ => wSt E q jb (if 0 ≤ w ∧ w ≤ 1 ∧ ¬ jr = 0 then 0 else jr) (if 0 ≤ w ∧ w ≤ 1 ∧ ¬ jr = 0 then (if w = 0 then 1 else 0) else lf) (if 0 ≤ w ∧ w ≤ 1 ∧ ¬ jr = 0 ∧ w = 0 then jf + 1 else jf) rd vr (if 0 ≤ w ∧ w ≤ 1 ∧ ¬ jr = 0 then sFl (if w = 0 then 1 else 0) G else G))) ([.ref (q 0), .int (iI w)] : List Value).toArray s 0 0 A) (F0 m 54 ls []) := by
          intro n
          induction n using Nat.strongRecOn with
          | ind n ih54 =>
            intro G1 i1 hmu54 hi54_0 hi54_1 hi54_2 H locs ls hP hD hS hl
            have hsi := hi54_2
            refine lv_iload_n hx hb dX2_endJob_54 rfl (lv_at hl 0 rfl) ?_
            refine lv_bipush (v := iI 6) hx hb dX2_endJob_55 (by decide) ?_
            refine z_icmp_ge (tgt := 112) hx hb dX2_endJob_57 (by decide) ⟨by omega, by omega⟩ ⟨by omega, by omega⟩ (fun c_57 => ?_) (fun c_57 => ?_)
            · refine lv_aload_n hx hb dX2_endJob_112 rfl (lv_at hl 1 rfl) ?_
              have hsf : sFl (if w = 0 then 1 else 0) G = G1 := by (first | rw [if_pos (by omega)] | rw [if_neg (by omega)]); rw [hi54_0, show i1 = 6 by omega]; rfl
              refine z_callV0 (ci := 2) (qk := 0) (As := []) (rest := []) hx hb hml hown hts hK hA hl.1 hP hD hS (c_X2_countMadeByJob l E q jb jr 0 jf rd vr G1   (by first | omega | exact hx3 | exact hx3 _ (by omega) (by omega) | exact ⟨by omega, by omega⟩ | exact hsi) (by first | omega | exact hx3 | exact hx3 _ (by omega) (by omega) | exact ⟨by omega, by omega⟩ | exact hsi)) gX2_endJob_X2_countMadeByJob rfl ndX2_countMadeByJob ⟨Nat.le_of_ble_eq_true rfl, Nat.le_of_ble_eq_true rfl⟩ rfl rfl rfl rfl rfl (Nat.le_of_ble_eq_true rfl) dX2_endJob_113 ⟨Nat.le_of_ble_eq_true rfl, Nat.le_of_ble_eq_true rfl⟩ (fun x u H locs hpost hP hD hS => ?_)
              subst hpost
              have hP : va_P E.1 vwCl (wSt E q jb jr 0 jf rd vr G1) H := hP
              have hD : va_D A (wSt E q jb jr 0 jf rd vr G1) := hD
              refine lv_istore_n (lv' := [(2, .int (iI (sMd jr G1))), (0, .ref (q 0)), (1, .int (iI w))]) hx hb dX2_endJob_116 rfl hl (by decide) rfl (fun ls hl => ?_)
              refine lv_aload_n hx hb dX2_endJob_117 rfl (lv_at hl 1 rfl) ?_
              refine lv_iconst (v := iI 0) hx hb dX2_endJob_118 (by decide) ?_
              refine va_put (D := E.1) (cl := vwCl) (ci := 2) (v := .int (iI 0)) (ty := .boolean) (C := RX2) (T := TX2) (N := 7) hx hb hts hinX2 tyX2 tyX2_ok nmX2 hown hK hP hD hS 0 rfl rfl 2 (by decide) hf_21 (fun _ h => h) rfl (by decide +kernel) (rfl) (rfl) (Nat.le_of_ble_eq_true rfl) dX2_endJob_119 (fun H locs hP hD hS => ?_)
              have hP : va_P E.1 vwCl (wSt E q jb 0 0 jf rd vr G1) H := hP
              have hD : va_D A (wSt E q jb 0 0 jf rd vr G1) := hD
              refine lv_iload_n hx hb dX2_endJob_122 rfl (lv_at hl 0 rfl) ?_
              have eqc_jr : (if 0 ≤ w ∧ w ≤ 1 ∧ ¬ jr = 0 then 0 else jr) = 0 := by (first | rw [if_pos (by omega)] | rw [if_neg (by omega)])
              have eqc_lf : (if 0 ≤ w ∧ w ≤ 1 ∧ ¬ jr = 0 then (if w = 0 then 1 else 0) else lf) = 0 := by (repeat (first | with_reducible rfl | rw [if_pos (by omega)] | rw [if_neg (by omega)]))
              have eqc_jf : (if 0 ≤ w ∧ w ≤ 1 ∧ ¬ jr = 0 ∧ w = 0 then jf + 1 else jf) = jf := by (first | rw [if_pos (by omega)] | rw [if_neg (by omega)])
              have eqc_G : (if 0 ≤ w ∧ w ≤ 1 ∧ ¬ jr = 0 then sFl (if w = 0 then 1 else 0) G else G) = G1 := by (first | rw [if_pos (by omega)] | rw [if_neg (by omega)]); all_goals (rw [hsf])
              have hP : va_P E.1 vwCl (wSt E q jb (if 0 ≤ w ∧ w ≤ 1 ∧ ¬ jr = 0 then 0 else jr) (if 0 ≤ w ∧ w ≤ 1 ∧ ¬ jr = 0 then (if w = 0 then 1 else 0) else lf) (if 0 ≤ w ∧ w ≤ 1 ∧ ¬ jr = 0 ∧ w = 0 then jf + 1 else jf) rd vr (if 0 ≤ w ∧ w ≤ 1 ∧ ¬ jr = 0 then sFl (if w = 0 then 1 else 0) G else G)) H := by rw [eqc_jr, eqc_lf, eqc_jf, eqc_G]; exact hP
              have hD : va_D A (wSt E q jb (if 0 ≤ w ∧ w ≤ 1 ∧ ¬ jr = 0 then 0 else jr) (if 0 ≤ w ∧ w ≤ 1 ∧ ¬ jr = 0 then (if w = 0 then 1 else 0) else lf) (if 0 ≤ w ∧ w ≤ 1 ∧ ¬ jr = 0 ∧ w = 0 then jf + 1 else jf) rd vr (if 0 ≤ w ∧ w ≤ 1 ∧ ¬ jr = 0 then sFl (if w = 0 then 1 else 0) G else G)) := by rw [eqc_jr, eqc_lf, eqc_jf, eqc_G]; exact hD
              exact z_iret hx hb hr hlocks hK hS () (by first | (rw [if_neg (show ¬ ¬ (0 ≤ w ∧ w ≤ 1) by omega), if_neg (show ¬ jr = 0 by omega), hsf]) | (repeat (first | with_reducible rfl | rw [if_pos (by omega)] | rw [if_neg (by omega)]))) hP hD dX2_endJob_123
            · refine lv_aload_n hx hb dX2_endJob_60 rfl (lv_at hl 1 rfl) ?_
              refine va_get (D := E.1) (cl := vwCl) (ci := 2) (v := .int (iI 0)) (C := RX2) (T := TX2) (N := 7) hx hb hts hinX2 hown hK hP 0 rfl rfl 3 (by decide) hf_25 (fun _ h => h) rfl dX2_endJob_61 ?_
              refine z_if_eq (tgt := 106) hx hb dX2_endJob_64 (by decide) ⟨by omega, by omega⟩ (fun c_64 => ?_) (fun c_64 => absurd c_64 (by omega))
              refine lv_iinc (v := iI (i1 + 1)) (lv' := [(2, .int (iI (i1 + 1))), (0, .ref (q 0)), (1, .int (iI w))]) hx hb dX2_endJob_106 hl (k := 0) rfl (iI_add _ _) (by decide) rfl (fun ls hl => ?_)
              refine lv_goto (tgt := 54) hx hb dX2_endJob_109 (by decide) ?_
              exact ih54 (6 - (i1 + 1) : Int).toNat (by omega) G1 (i1 + 1) (by omega) (by rw [itr_step (by omega), ← hi54_0]; first | rw [if_pos (by omega)] | rw [if_neg (by omega)]) (by omega) (by first | exact hsi | exact SI_gU hsi (XI_xHo (hsi i1 (by omega) (by omega)))) _ _ ls hP hD hS (lv_sub hl [0, 1, 2] rfl)
        exact hloop54 (6 - 0 : Int).toNat G 0 (by omega) (rfl) (by omega) (hsi) _ _ ls hP hD hS (lv_sub hl [0, 1, 2] rfl)
      · refine lv_bipush (v := iI (-5)) hx hb dX2_endJob_19 (by decide) ?_
        have eqc_jr : (if 0 ≤ w ∧ w ≤ 1 ∧ ¬ jr = 0 then 0 else jr) = jr := by (first | rw [if_pos (by omega)] | rw [if_neg (by omega)])
        have eqc_lf : (if 0 ≤ w ∧ w ≤ 1 ∧ ¬ jr = 0 then (if w = 0 then 1 else 0) else lf) = lf := by (repeat (first | with_reducible rfl | rw [if_pos (by omega)] | rw [if_neg (by omega)]))
        have eqc_jf : (if 0 ≤ w ∧ w ≤ 1 ∧ ¬ jr = 0 ∧ w = 0 then jf + 1 else jf) = jf := by (first | rw [if_pos (by omega)] | rw [if_neg (by omega)])
        have eqc_G : (if 0 ≤ w ∧ w ≤ 1 ∧ ¬ jr = 0 then sFl (if w = 0 then 1 else 0) G else G) = G := by (first | rw [if_pos (by omega)] | rw [if_neg (by omega)]); all_goals (rw [hsf])
        have hP : va_P E.1 vwCl (wSt E q jb (if 0 ≤ w ∧ w ≤ 1 ∧ ¬ jr = 0 then 0 else jr) (if 0 ≤ w ∧ w ≤ 1 ∧ ¬ jr = 0 then (if w = 0 then 1 else 0) else lf) (if 0 ≤ w ∧ w ≤ 1 ∧ ¬ jr = 0 ∧ w = 0 then jf + 1 else jf) rd vr (if 0 ≤ w ∧ w ≤ 1 ∧ ¬ jr = 0 then sFl (if w = 0 then 1 else 0) G else G)) s.heap := by rw [eqc_jr, eqc_lf, eqc_jf, eqc_G]; exact hP
        have hD : va_D A (wSt E q jb (if 0 ≤ w ∧ w ≤ 1 ∧ ¬ jr = 0 then 0 else jr) (if 0 ≤ w ∧ w ≤ 1 ∧ ¬ jr = 0 then (if w = 0 then 1 else 0) else lf) (if 0 ≤ w ∧ w ≤ 1 ∧ ¬ jr = 0 ∧ w = 0 then jf + 1 else jf) rd vr (if 0 ≤ w ∧ w ≤ 1 ∧ ¬ jr = 0 then sFl (if w = 0 then 1 else 0) G else G)) := by rw [eqc_jr, eqc_lf, eqc_jf, eqc_G]; exact hD
        exact z_iret hx hb hr hlocks hK hS () (by first | (rw [if_neg (show ¬ ¬ (0 ≤ w ∧ w ≤ 1) by omega), if_neg (show ¬ jr = 0 by omega), hsf]) | (repeat (first | with_reducible rfl | rw [if_pos (by omega)] | rw [if_neg (by omega)]))) hP hD dX2_endJob_21
    · refine lv_bipush (v := iI (-2)) hx hb dX2_endJob_9 (by decide) ?_
      have eqc_jr : (if 0 ≤ w ∧ w ≤ 1 ∧ ¬ jr = 0 then 0 else jr) = jr := by (first | rw [if_pos (by omega)] | rw [if_neg (by omega)])
      have eqc_lf : (if 0 ≤ w ∧ w ≤ 1 ∧ ¬ jr = 0 then (if w = 0 then 1 else 0) else lf) = lf := by (repeat (first | with_reducible rfl | rw [if_pos (by omega)] | rw [if_neg (by omega)]))
      have eqc_jf : (if 0 ≤ w ∧ w ≤ 1 ∧ ¬ jr = 0 ∧ w = 0 then jf + 1 else jf) = jf := by (first | rw [if_pos (by omega)] | rw [if_neg (by omega)])
      have eqc_G : (if 0 ≤ w ∧ w ≤ 1 ∧ ¬ jr = 0 then sFl (if w = 0 then 1 else 0) G else G) = G := by (first | rw [if_pos (by omega)] | rw [if_neg (by omega)]); all_goals (rw [hsf])
      have hP : va_P E.1 vwCl (wSt E q jb (if 0 ≤ w ∧ w ≤ 1 ∧ ¬ jr = 0 then 0 else jr) (if 0 ≤ w ∧ w ≤ 1 ∧ ¬ jr = 0 then (if w = 0 then 1 else 0) else lf) (if 0 ≤ w ∧ w ≤ 1 ∧ ¬ jr = 0 ∧ w = 0 then jf + 1 else jf) rd vr (if 0 ≤ w ∧ w ≤ 1 ∧ ¬ jr = 0 then sFl (if w = 0 then 1 else 0) G else G)) s.heap := by rw [eqc_jr, eqc_lf, eqc_jf, eqc_G]; exact hP
      have hD : va_D A (wSt E q jb (if 0 ≤ w ∧ w ≤ 1 ∧ ¬ jr = 0 then 0 else jr) (if 0 ≤ w ∧ w ≤ 1 ∧ ¬ jr = 0 then (if w = 0 then 1 else 0) else lf) (if 0 ≤ w ∧ w ≤ 1 ∧ ¬ jr = 0 ∧ w = 0 then jf + 1 else jf) rd vr (if 0 ≤ w ∧ w ≤ 1 ∧ ¬ jr = 0 then sFl (if w = 0 then 1 else 0) G else G)) := by rw [eqc_jr, eqc_lf, eqc_jf, eqc_G]; exact hD
      exact z_iret hx hb hr hlocks hK hS () (by first | (rw [if_neg (show ¬ ¬ (0 ≤ w ∧ w ≤ 1) by omega), if_neg (show ¬ jr = 0 by omega), hsf]) | (repeat (first | with_reducible rfl | rw [if_pos (by omega)] | rw [if_neg (by omega)]))) hP hD dX2_endJob_11
