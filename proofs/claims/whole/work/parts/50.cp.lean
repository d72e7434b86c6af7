theorem ndX2_copyFrom : yX2_copyFrom.cls = RX2 ∧ yX2_copyFrom.cls ≠ "java/lang/invoke/MethodHandle" ∧ yX2_copyFrom.cls ≠ "java/lang/invoke/VarHandle" ∧ (parseMethodDescriptor yX2_copyFrom.desc).map (fun d => d.parameters.length) = some 1 := by decide +kernel
set_option maxRecDepth 100000 in
set_option maxHeartbeats 1000000 in
theorem c_X2_copyFrom (l : Launch) (E : zE) (q : Nat → Nat) (jb jr lf jf rd vr : Int) (G : Int → zGr) (jb2 jr2 lf2 jf2 rd2 vr2 : Int) (G2 : Int → zGr) (q2 : Nat → Nat) (h0 : jr2 = 0 ∨ jr2 = 1) (h1 : lf2 = 0 ∨ lf2 = 1) : zFv l E yX2_copyFrom wsX2_copyFrom 2 81 [.ref (q 0), .ref (q2 0)] (wSS E q q2 jb jr lf jf rd vr G jb2 jr2 lf2 jf2 rd2 vr2 G2) (wSS E q q2 jb2 jr2 lf2 jf2 rd2 vr2 (sCp G G2) jb2 jr2 lf2 jf2 rd2 vr2 G2) := by
  refine zCv_of (cc := cX2_copyFrom) (maxL := 3) (by decide) rfl (Nat.le_of_ble_eq_true rfl) ?_
  intro p e s m below meth c ls A hx hb hr hts hown hlocks hml hK hA hS hP hD hl
  have hown : s.vm.findClass RX2 = some m.cls := hown
  have hl : lv_has ls 3 [(0, .ref (q 0)), (1, .ref (q2 0))] := hl
  have hinX2 : ∀ v ∈ u_ws RX2 TX2 7, v ∈ wsX2_copyFrom := by decide +kernel
  have hf_17 := hts (.fieldLink RX2 17 "GenerationNames$State" "jobsBegun" "I") (by decide +kernel)
  have hf_21 := hts (.fieldLink RX2 21 "GenerationNames$State" "jobRuns" "Z") (by decide +kernel)
  have hf_25 := hts (.fieldLink RX2 25 "GenerationNames$State" "lastJobFailed" "Z") (by decide +kernel)
  have hf_28 := hts (.fieldLink RX2 28 "GenerationNames$State" "jobsFailed" "I") (by decide +kernel)
  have hf_31 := hts (.fieldLink RX2 31 "GenerationNames$State" "reads" "I") (by decide +kernel)
  have hf_34 := hts (.fieldLink RX2 34 "GenerationNames$State" "vainReads" "I") (by decide +kernel)
  have hf_11 := hts (.fieldLink RX2 11 "GenerationNames$State" "groups" "[LGenerationNames$Group;") (by decide +kernel)
  refine lv_iconst (v := iI 0) hx hb dX2_copyFrom_0 (by decide) ?_
  refine lv_istore_n (lv' := [(2, .int (iI 0)), (0, .ref (q 0)), (1, .ref (q2 0))]) hx hb dX2_copyFrom_1 rfl hl (by decide) rfl (fun ls hl => ?_)
  have hloop2 : ∀ (n : Nat) (G1 : Int → zGr) (i1 : Int) (hmu : 6 - i1 = (n : Int)) (hi2_0 : G1 = itr (fun g Y => gU Y g (xCp (Y g) (G2 g))) G (i1).toNat) (hi2_1 : 0 ≤ i1 ∧ i1 ≤ 6) (H : Heap) (locs : List Loc) (ls : Array Slot), va_P E.1 vwCl (wSS E q q2 jb jr lf jf rd vr G1 jb2 jr2 lf2 jf2 rd2 vr2 G2) H → va_D A (wSS E q q2 jb jr lf jf rd vr G1 jb2 jr2 lf2 jf2 rd2 vr2 G2) → va_S A s.heap H locs → lv_has ls 3 [(2, .int (iI i1)), (0, .ref (q 0)), (1, .ref (q2 0))] → W p l e (zR 2 81) s m ([.ref (q 0), .ref (q2 0)] : List Value).toArray below meth c H locs 0 0 (MQ below (zQv E A (S := Unit) (fun _ => True) (fun _ => wSS E q q2 jb2 jr2 lf2 jf2 rd2 vr2 (sCp G G2) jb2 jr2 lf2 jf2 rd2 vr2 G2)) ([.ref (q 0), .ref (q2 0)] : List Value).toArray s 0 0 A) (F0 m 2 ls []) := by
    intro n
    induction n using Nat.strongRecOn with
    | ind n ih2 =>
      intro G1 i1 hmu2 hi2_0 hi2_1 H locs ls hP hD hS hl
      refine lv_iload_n hx hb dX2_copyFrom_2 rfl (lv_at hl 0 rfl) ?_
      refine lv_bipush (v := iI 6) hx hb dX2_copyFrom_3 (by decide) ?_
      refine z_icmp_ge (tgt := 29) hx hb dX2_copyFrom_5 (by decide) ⟨by first | omega | exact (hz _).1 | exact (hz _).2, by first | omega | exact (hz _).1 | exact (hz _).2⟩ ⟨by first | omega | exact (hz _).1 | exact (hz _).2, by first | omega | exact (hz _).1 | exact (hz _).2⟩ (fun c_5 => ?_) (fun c_5 => ?_)
      · refine lv_aload_n hx hb dX2_copyFrom_29 rfl (lv_at hl 1 rfl) ?_
        refine lv_aload_n hx hb dX2_copyFrom_30 rfl (lv_at hl 2 rfl) ?_
        refine va_get (D := E.1) (cl := vwCl) (ci := 2) (v := .int (iI jb2)) (C := RX2) (T := TX2) (N := 7) hx hb hts hinX2 hown hK hP 2 rfl rfl 1 (by decide) hf_17 (fun _ h => h) rfl dX2_copyFrom_31 ?_
        refine va_put (D := E.1) (cl := vwCl) (ci := 2) (v := .int (iI jb2)) (ty := .int) (C := RX2) (T := TX2) (N := 7) hx hb hts hinX2 tyX2 tyX2_ok nmX2 hown hK hP hD hS 0 rfl rfl 1 (by decide) hf_17 (fun _ h => h) rfl (by decide +kernel) (rfl) (rfl) (Nat.le_of_ble_eq_true rfl) dX2_copyFrom_34 (fun H locs hP hD hS => ?_)
        have hP : va_P E.1 vwCl (wSS E q q2 jb2 jr lf jf rd vr G1 jb2 jr2 lf2 jf2 rd2 vr2 G2) H := hP
        have hD : va_D A (wSS E q q2 jb2 jr lf jf rd vr G1 jb2 jr2 lf2 jf2 rd2 vr2 G2) := hD
        refine lv_aload_n hx hb dX2_copyFrom_37 rfl (lv_at hl 1 rfl) ?_
        refine lv_aload_n hx hb dX2_copyFrom_38 rfl (lv_at hl 2 rfl) ?_
        refine va_get (D := E.1) (cl := vwCl) (ci := 2) (v := .int (iI jr2)) (C := RX2) (T := TX2) (N := 7) hx hb hts hinX2 hown hK hP 2 rfl rfl 2 (by decide) hf_21 (fun _ h => h) rfl dX2_copyFrom_39 ?_
        refine va_put (D := E.1) (cl := vwCl) (ci := 2) (v := .int (iI jr2)) (ty := .boolean) (C := RX2) (T := TX2) (N := 7) hx hb hts hinX2 tyX2 tyX2_ok nmX2 hown hK hP hD hS 0 rfl rfl 2 (by decide) hf_21 (fun _ h => h) rfl (by decide +kernel) (nz01 (by omega)) (fz01 (by omega)) (Nat.le_of_ble_eq_true rfl) dX2_copyFrom_42 (fun H locs hP hD hS => ?_)
        have hP : va_P E.1 vwCl (wSS E q q2 jb2 jr2 lf jf rd vr G1 jb2 jr2 lf2 jf2 rd2 vr2 G2) H := hP
        have hD : va_D A (wSS E q q2 jb2 jr2 lf jf rd vr G1 jb2 jr2 lf2 jf2 rd2 vr2 G2) := hD
        refine lv_aload_n hx hb dX2_copyFrom_45 rfl (lv_at hl 1 rfl) ?_
        refine lv_aload_n hx hb dX2_copyFrom_46 rfl (lv_at hl 2 rfl) ?_
        refine va_get (D := E.1) (cl := vwCl) (ci := 2) (v := .int (iI lf2)) (C := RX2) (T := TX2) (N := 7) hx hb hts hinX2 hown hK hP 2 rfl rfl 3 (by decide) hf_25 (fun _ h => h) rfl dX2_copyFrom_47 ?_
        refine va_put (D := E.1) (cl := vwCl) (ci := 2) (v := .int (iI lf2)) (ty := .boolean) (C := RX2) (T := TX2) (N := 7) hx hb hts hinX2 tyX2 tyX2_ok nmX2 hown hK hP hD hS 0 rfl rfl 3 (by decide) hf_25 (fun _ h => h) rfl (by decide +kernel) (nz01 (by omega)) (fz01 (by omega)) (Nat.le_of_ble_eq_true rfl) dX2_copyFrom_50 (fun H locs hP hD hS => ?_)
        have hP : va_P E.1 vwCl (wSS E q q2 jb2 jr2 lf2 jf rd vr G1 jb2 jr2 lf2 jf2 rd2 vr2 G2) H := hP
        have hD : va_D A (wSS E q q2 jb2 jr2 lf2 jf rd vr G1 jb2 jr2 lf2 jf2 rd2 vr2 G2) := hD
        refine lv_aload_n hx hb dX2_copyFrom_53 rfl (lv_at hl 1 rfl) ?_
        refine lv_aload_n hx hb dX2_copyFrom_54 rfl (lv_at hl 2 rfl) ?_
        refine va_get (D := E.1) (cl := vwCl) (ci := 2) (v := .int (iI jf2)) (C := RX2) (T := TX2) (N := 7) hx hb hts hinX2 hown hK hP 2 rfl rfl 4 (by decide) hf_28 (fun _ h => h) rfl dX2_copyFrom_55 ?_
        refine va_put (D := E.1) (cl := vwCl) (ci := 2) (v := .int (iI jf2)) (ty := .int) (C := RX2) (T := TX2) (N := 7) hx hb hts hinX2 tyX2 tyX2_ok nmX2 hown hK hP hD hS 0 rfl rfl 4 (by decide) hf_28 (fun _ h => h) rfl (by decide +kernel) (rfl) (rfl) (Nat.le_of_ble_eq_true rfl) dX2_copyFrom_58 (fun H locs hP hD hS => ?_)
        have hP : va_P E.1 vwCl (wSS E q q2 jb2 jr2 lf2 jf2 rd vr G1 jb2 jr2 lf2 jf2 rd2 vr2 G2) H := hP
        have hD : va_D A (wSS E q q2 jb2 jr2 lf2 jf2 rd vr G1 jb2 jr2 lf2 jf2 rd2 vr2 G2) := hD
        refine lv_aload_n hx hb dX2_copyFrom_61 rfl (lv_at hl 1 rfl) ?_
        refine lv_aload_n hx hb dX2_copyFrom_62 rfl (lv_at hl 2 rfl) ?_
        refine va_get (D := E.1) (cl := vwCl) (ci := 2) (v := .int (iI rd2)) (C := RX2) (T := TX2) (N := 7) hx hb hts hinX2 hown hK hP 2 rfl rfl 5 (by decide) hf_31 (fun _ h => h) rfl dX2_copyFrom_63 ?_
        refine va_put (D := E.1) (cl := vwCl) (ci := 2) (v := .int (iI rd2)) (ty := .int) (C := RX2) (T := TX2) (N := 7) hx hb hts hinX2 tyX2 tyX2_ok nmX2 hown hK hP hD hS 0 rfl rfl 5 (by decide) hf_31 (fun _ h => h) rfl (by decide +kernel) (rfl) (rfl) (Nat.le_of_ble_eq_true rfl) dX2_copyFrom_66 (fun H locs hP hD hS => ?_)
        have hP : va_P E.1 vwCl (wSS E q q2 jb2 jr2 lf2 jf2 rd2 vr G1 jb2 jr2 lf2 jf2 rd2 vr2 G2) H := hP
        have hD : va_D A (wSS E q q2 jb2 jr2 lf2 jf2 rd2 vr G1 jb2 jr2 lf2 jf2 rd2 vr2 G2) := hD
        refine lv_aload_n hx hb dX2_copyFrom_69 rfl (lv_at hl 1 rfl) ?_
        refine lv_aload_n hx hb dX2_copyFrom_70 rfl (lv_at hl 2 rfl) ?_
        refine va_get (D := E.1) (cl := vwCl) (ci := 2) (v := .int (iI vr2)) (C := RX2) (T := TX2) (N := 7) hx hb hts hinX2 hown hK hP 2 rfl rfl 6 (by decide) hf_34 (fun _ h => h) rfl dX2_copyFrom_71 ?_
        refine va_put (D := E.1) (cl := vwCl) (ci := 2) (v := .int (iI vr2)) (ty := .int) (C := RX2) (T := TX2) (N := 7) hx hb hts hinX2 tyX2 tyX2_ok nmX2 hown hK hP hD hS 0 rfl rfl 6 (by decide) hf_34 (fun _ h => h) rfl (by decide +kernel) (rfl) (rfl) (Nat.le_of_ble_eq_true rfl) dX2_copyFrom_74 (fun H locs hP hD hS => ?_)
        have hP : va_P E.1 vwCl (wSS E q q2 jb2 jr2 lf2 jf2 rd2 vr2 G1 jb2 jr2 lf2 jf2 rd2 vr2 G2) H := hP
        have hD : va_D A (wSS E q q2 jb2 jr2 lf2 jf2 rd2 vr2 G1 jb2 jr2 lf2 jf2 rd2 vr2 G2) := hD
        have eqc_G : (sCp G G2) = G1 := by rw [hi2_0, show i1 = 6 by omega]; rfl
        have hP : va_P E.1 vwCl (wSS E q q2 jb2 jr2 lf2 jf2 rd2 vr2 (sCp G G2) jb2 jr2 lf2 jf2 rd2 vr2 G2) H := by rw [eqc_G]; exact hP
        have hD : va_D A (wSS E q q2 jb2 jr2 lf2 jf2 rd2 vr2 (sCp G G2) jb2 jr2 lf2 jf2 rd2 vr2 G2) := by rw [eqc_G]; exact hD
        exact z_vret hx hb hr hlocks hK hS () (by first | rfl | trivial | exact zb_t' (by omega) | exact zb_f' (by omega) | omega) hP hD dX2_copyFrom_77
      · refine lv_aload_n hx hb dX2_copyFrom_8 rfl (lv_at hl 1 rfl) ?_
        refine va_get (D := E.1) (cl := vwCl) (ci := 2) (v := .ref (q 1)) (C := RX2) (T := TX2) (N := 7) hx hb hts hinX2 hown hK hP 0 rfl rfl 0 (by decide) hf_11 (fun _ h => h) rfl dX2_copyFrom_9 ?_
        refine lv_iload_n hx hb dX2_copyFrom_12 rfl (lv_at hl 0 rfl) ?_
        refine z_aald (D := E.1) (cl := vwCl) (tys := zT E) (f := fun j : Nat => q (2 + 4 * j)) hx hb hK hP 1 3 rfl rfl (by omega) (by omega) (by omega) dX2_copyFrom_13 ?_
        refine W.eq (g2 := F0 m 14 ls [.ref (gq q i1 0)]) rfl ?_
        have hP := zP_perm hP (wSS_perm (g := i1) (by omega))
        have hD := zD_perm hD (wSS_perm (g := i1) (by omega))
        have hP : va_P E.1 vwCl (wFF E q q2 i1 (wR E q G1 i1 ++ wR E q2 G2 i1) jb jr lf jf rd vr jb2 jr2 lf2 jf2 rd2 vr2 (G1 i1 0 0) (G1 i1 0 1) (G1 i1 0 2) (G1 i1 0 3) (G1 i1 0 4) (G1 i1 0 5) (G1 i1 0 6) (G1 i1 1) (G1 i1 2) (G1 i1 3) (G2 i1 0 0) (G2 i1 0 1) (G2 i1 0 2) (G2 i1 0 3) (G2 i1 0 4) (G2 i1 0 5) (G2 i1 0 6) (G2 i1 1) (G2 i1 2) (G2 i1 3)) H := hP
        have hD : va_D A (wFF E q q2 i1 (wR E q G1 i1 ++ wR E q2 G2 i1) jb jr lf jf rd vr jb2 jr2 lf2 jf2 rd2 vr2 (G1 i1 0 0) (G1 i1 0 1) (G1 i1 0 2) (G1 i1 0 3) (G1 i1 0 4) (G1 i1 0 5) (G1 i1 0 6) (G1 i1 1) (G1 i1 2) (G1 i1 3) (G2 i1 0 0) (G2 i1 0 1) (G2 i1 0 2) (G2 i1 0 3) (G2 i1 0 4) (G2 i1 0 5) (G2 i1 0 6) (G2 i1 1) (G2 i1 2) (G2 i1 3)) := hD
        refine lv_aload_n hx hb dX2_copyFrom_14 rfl (lv_at hl 2 rfl) ?_
        refine va_get (D := E.1) (cl := vwCl) (ci := 2) (v := .ref (q2 1)) (C := RX2) (T := TX2) (N := 7) hx hb hts hinX2 hown hK hP 2 rfl rfl 0 (by decide) hf_11 (fun _ h => h) rfl dX2_copyFrom_15 ?_
        refine lv_iload_n hx hb dX2_copyFrom_18 rfl (lv_at hl 0 rfl) ?_
        refine z_aald (D := E.1) (cl := vwCl) (tys := zT E) (f := fun j : Nat => q2 (2 + 4 * j)) hx hb hK hP 3 3 rfl rfl (by omega) (by omega) (by omega) dX2_copyFrom_19 ?_
        refine W.eq (g2 := F0 m 20 ls [.ref (gq q2 i1 0), .ref (gq q i1 0)]) rfl ?_
        have hP : va_P E.1 vwCl (wFF E q q2 i1 (wR E q G1 i1 ++ wR E q2 G2 i1) jb jr lf jf rd vr jb2 jr2 lf2 jf2 rd2 vr2 (G1 i1 0 0) (G1 i1 0 1) (G1 i1 0 2) (G1 i1 0 3) (G1 i1 0 4) (G1 i1 0 5) (G1 i1 0 6) (G1 i1 1) (G1 i1 2) (G1 i1 3) (G2 i1 0 0) (G2 i1 0 1) (G2 i1 0 2) (G2 i1 0 3) (G2 i1 0 4) (G2 i1 0 5) (G2 i1 0 6) (G2 i1 1) (G2 i1 2) (G2 i1 3)) H := hP
        have hD : va_D A (wFF E q q2 i1 (wR E q G1 i1 ++ wR E q2 G2 i1) jb jr lf jf rd vr jb2 jr2 lf2 jf2 rd2 vr2 (G1 i1 0 0) (G1 i1 0 1) (G1 i1 0 2) (G1 i1 0 3) (G1 i1 0 4) (G1 i1 0 5) (G1 i1 0 6) (G1 i1 1) (G1 i1 2) (G1 i1 3) (G2 i1 0 0) (G2 i1 0 1) (G2 i1 0 2) (G2 i1 0 3) (G2 i1 0 4) (G2 i1 0 5) (G2 i1 0 6) (G2 i1 1) (G2 i1 2) (G2 i1 3)) := hD
        refine z_callMv (w0 := wS2 E q jb jr lf jf rd vr ++ wS2 E q2 jb2 jr2 lf2 jf2 rd2 vr2) (ci := 0) (qk := 0) (As := [.ref (gq q2 i1 0)]) (rest := []) hx hb hml hown hts hK hA hl.1 hP hD hS (c_X0_copyFrom l E (gq q i1) (G1 i1 1) (G1 i1 2) (G1 i1 3) (G2 i1 1) (G2 i1 2) (G2 i1 3) (G1 i1 0 0) (G1 i1 0 1) (G1 i1 0 2) (G1 i1 0 3) (G1 i1 0 4) (G1 i1 0 5) (G1 i1 0 6) (G2 i1 0 0) (G2 i1 0 1) (G2 i1 0 2) (G2 i1 0 3) (G2 i1 0 4) (G2 i1 0 5) (G2 i1 0 6) (gq q2 i1)  ) gX2_copyFrom_X0_copyFrom rfl ndX0_copyFrom ⟨Nat.le_of_ble_eq_true rfl, Nat.le_of_ble_eq_true rfl⟩ rfl rfl rfl rfl rfl (Nat.le_of_ble_eq_true rfl) dX2_copyFrom_20 ⟨Nat.le_of_ble_eq_true rfl, Nat.le_of_ble_eq_true rfl⟩ (fun u H locs hpost hP hD hS => ?_)
        have hP : va_P E.1 vwCl (wFF E q q2 i1 (wR E q G1 i1 ++ wR E q2 G2 i1) jb jr lf jf rd vr jb2 jr2 lf2 jf2 rd2 vr2 (G2 i1 0 0) (G2 i1 0 1) (G2 i1 0 2) (G2 i1 0 3) (G2 i1 0 4) (G2 i1 0 5) (G2 i1 0 6) (cpy8 (G2 i1 1) (G1 i1 1)) (cpy8 (G2 i1 2) (G1 i1 2)) (cpy8 (G2 i1 3) (G1 i1 3)) (G2 i1 0 0) (G2 i1 0 1) (G2 i1 0 2) (G2 i1 0 3) (G2 i1 0 4) (G2 i1 0 5) (G2 i1 0 6) (G2 i1 1) (G2 i1 2) (G2 i1 3)) H := hP
        have hD : va_D A (wFF E q q2 i1 (wR E q G1 i1 ++ wR E q2 G2 i1) jb jr lf jf rd vr jb2 jr2 lf2 jf2 rd2 vr2 (G2 i1 0 0) (G2 i1 0 1) (G2 i1 0 2) (G2 i1 0 3) (G2 i1 0 4) (G2 i1 0 5) (G2 i1 0 6) (cpy8 (G2 i1 1) (G1 i1 1)) (cpy8 (G2 i1 2) (G1 i1 2)) (cpy8 (G2 i1 3) (G1 i1 3)) (G2 i1 0 0) (G2 i1 0 1) (G2 i1 0 2) (G2 i1 0 3) (G2 i1 0 4) (G2 i1 0 5) (G2 i1 0 6) (G2 i1 1) (G2 i1 2) (G2 i1 3)) := hD
        refine lv_iinc (v := iI (i1 + 1)) (lv' := [(2, .int (iI (i1 + 1))), (0, .ref (q 0)), (1, .ref (q2 0))]) hx hb dX2_copyFrom_23 hl (k := 0) rfl (iI_add _ _) (by decide) rfl (fun ls hl => ?_)
        refine lv_goto (tgt := 2) hx hb dX2_copyFrom_26 (by decide) ?_
        have hP : va_P E.1 vwCl (wSS E q q2 jb jr lf jf rd vr (gU G1 i1 (xCp (G1 i1) (G2 i1))) jb2 jr2 lf2 jf2 rd2 vr2 G2) H := zP_perm hP (wFF_perm (g := i1) (by omega))
        have hD : va_D A (wSS E q q2 jb jr lf jf rd vr (gU G1 i1 (xCp (G1 i1) (G2 i1))) jb2 jr2 lf2 jf2 rd2 vr2 G2) := zD_perm hD (wFF_perm (g := i1) (by omega))
        exact ih2 (6 - (i1 + 1) : Int).toNat (by omega) (gU G1 i1 (xCp (G1 i1) (G2 i1))) (i1 + 1) (by omega) (by rw [itr_step (by omega), ← hi2_0]) (by omega) _ _ ls hP hD hS (lv_sub hl [0, 1, 2] rfl)
  exact hloop2 (6 - 0 : Int).toNat G 0 (by omega) (rfl) (by omega) _ _ ls hP hD hS (lv_sub hl [0, 1, 2] rfl)
