theorem ndX2_isGroup : yX2_isGroup.cls = RX2 ∧ yX2_isGroup.cls ≠ "java/lang/invoke/MethodHandle" ∧ yX2_isGroup.cls ≠ "java/lang/invoke/VarHandle" ∧ (parseMethodDescriptor yX2_isGroup.desc).map (fun d => d.parameters.length) = some 1 := by decide +kernel
set_option maxRecDepth 100000 in
set_option maxHeartbeats 1000000 in
theorem c_X2_isGroup (l : Launch) (E : zE) (q : Nat → Nat) (jb jr lf jf rd vr : Int) (G : Int → zGr) (gr : Int) (h0 : rg gr) : zF l E yX2_isGroup wsX2_isGroup 0 0 [.ref (q 0), .int (iI gr)] (wSt E q jb jr lf jf rd vr G) (zb (0 ≤ gr ∧ gr ≤ 5)) (wSt E q jb jr lf jf rd vr G) := by
  refine zC_of (cc := cX2_isGroup) (maxL := 2) (by decide) rfl (Nat.le_of_ble_eq_true rfl) ?_
  intro p e s m below meth c ls A hx hb hr hts hown hlocks hml hK hA hS hP hD hl
  have hown : s.vm.findClass RX2 = some m.cls := hown
  have hl : lv_has ls 2 [(0, .ref (q 0)), (1, .int (iI gr))] := hl
  refine lv_iload_n hx hb dX2_isGroup_0 rfl (lv_at hl 1 rfl) ?_
  refine z_if_lt (tgt := 14) hx hb dX2_isGroup_1 (by decide) ⟨by omega, by omega⟩ (fun c_1 => ?_) (fun c_1 => ?_)
  · refine lv_iconst (v := iI 0) hx hb dX2_isGroup_14 (by decide) ?_
    exact z_zret hx hb hr hlocks hK hS (Or.inl rfl) () (by first | rfl | trivial | exact zb_t' (by omega) | exact zb_f' (by omega) | omega) hP hD dX2_isGroup_15
  · refine lv_iload_n hx hb dX2_isGroup_4 rfl (lv_at hl 1 rfl) ?_
    refine lv_bipush (v := iI 6) hx hb dX2_isGroup_5 (by decide) ?_
    refine z_icmp_ge (tgt := 14) hx hb dX2_isGroup_7 (by decide) ⟨by omega, by omega⟩ ⟨by omega, by omega⟩ (fun c_7 => ?_) (fun c_7 => ?_)
    · refine lv_iconst (v := iI 0) hx hb dX2_isGroup_14 (by decide) ?_
      exact z_zret hx hb hr hlocks hK hS (Or.inl rfl) () (by first | rfl | trivial | exact zb_t' (by omega) | exact zb_f' (by omega) | omega) hP hD dX2_isGroup_15
    · refine lv_iconst (v := iI 1) hx hb dX2_isGroup_10 (by decide) ?_
      refine lv_goto (tgt := 15) hx hb dX2_isGroup_11 (by decide) ?_
      exact z_zret hx hb hr hlocks hK hS (Or.inr rfl) () (by first | rfl | trivial | exact zb_t' (by omega) | exact zb_f' (by omega) | omega) hP hD dX2_isGroup_15

theorem ndX2_isName : yX2_isName.cls = RX2 ∧ yX2_isName.cls ≠ "java/lang/invoke/MethodHandle" ∧ yX2_isName.cls ≠ "java/lang/invoke/VarHandle" ∧ (parseMethodDescriptor yX2_isName.desc).map (fun d => d.parameters.length) = some 1 := by decide +kernel
set_option maxRecDepth 100000 in
set_option maxHeartbeats 1000000 in
theorem c_X2_isName (l : Launch) (E : zE) (q : Nat → Nat) (jb jr lf jf rd vr : Int) (G : Int → zGr) (n : Int) (h0 : rg n) : zF l E yX2_isName wsX2_isName 0 0 [.ref (q 0), .int (iI n)] (wSt E q jb jr lf jf rd vr G) (zb (-7 ≤ n ∧ n ≤ 1)) (wSt E q jb jr lf jf rd vr G) := by
  refine zC_of (cc := cX2_isName) (maxL := 2) (by decide) rfl (Nat.le_of_ble_eq_true rfl) ?_
  intro p e s m below meth c ls A hx hb hr hts hown hlocks hml hK hA hS hP hD hl
  have hown : s.vm.findClass RX2 = some m.cls := hown
  have hl : lv_has ls 2 [(0, .ref (q 0)), (1, .int (iI n))] := hl
  refine lv_iload_n hx hb dX2_isName_0 rfl (lv_at hl 1 rfl) ?_
  refine lv_bipush (v := iI (-7)) hx hb dX2_isName_1 (by decide) ?_
  refine z_icmp_lt (tgt := 15) hx hb dX2_isName_3 (by decide) ⟨by omega, by omega⟩ ⟨by omega, by omega⟩ (fun c_3 => ?_) (fun c_3 => ?_)
  · refine lv_iconst (v := iI 0) hx hb dX2_isName_15 (by decide) ?_
    exact z_zret hx hb hr hlocks hK hS (Or.inl rfl) () (by first | rfl | trivial | exact zb_t' (by omega) | exact zb_f' (by omega) | omega) hP hD dX2_isName_16
  · refine lv_iload_n hx hb dX2_isName_6 rfl (lv_at hl 1 rfl) ?_
    refine lv_iconst (v := iI 1) hx hb dX2_isName_7 (by decide) ?_
    refine z_icmp_gt (tgt := 15) hx hb dX2_isName_8 (by decide) ⟨by omega, by omega⟩ ⟨by omega, by omega⟩ (fun c_8 => ?_) (fun c_8 => ?_)
    · refine lv_iconst (v := iI 0) hx hb dX2_isName_15 (by decide) ?_
      exact z_zret hx hb hr hlocks hK hS (Or.inl rfl) () (by first | rfl | trivial | exact zb_t' (by omega) | exact zb_f' (by omega) | omega) hP hD dX2_isName_16
    · refine lv_iconst (v := iI 1) hx hb dX2_isName_11 (by decide) ?_
      refine lv_goto (tgt := 16) hx hb dX2_isName_12 (by decide) ?_
      exact z_zret hx hb hr hlocks hK hS (Or.inr rfl) () (by first | rfl | trivial | exact zb_t' (by omega) | exact zb_f' (by omega) | omega) hP hD dX2_isName_16

theorem ndX2_hasNewestOfJob : yX2_hasNewestOfJob.cls = RX2 ∧ yX2_hasNewestOfJob.cls ≠ "java/lang/invoke/MethodHandle" ∧ yX2_hasNewestOfJob.cls ≠ "java/lang/invoke/VarHandle" ∧ (parseMethodDescriptor yX2_hasNewestOfJob.desc).map (fun d => d.parameters.length) = some 1 := by decide +kernel
set_option maxRecDepth 100000 in
set_option maxHeartbeats 1000000 in
theorem c_X2_hasNewestOfJob (l : Launch) (E : zE) (q : Nat → Nat) (g : Int) (R : va_W) (jb jr lf jf rd vr : Int) (ke ne si ro de nj mj : Int) (da re jo : Int → Int) (h0 : jr = 0 ∨ jr = 1) (h1 : rg mj) : zF l E yX2_hasNewestOfJob wsX2_hasNewestOfJob 0 0 [.ref (q 0), .ref (gq q g 0)] (wF E q g R jb jr lf jf rd vr ke ne si ro de nj mj da re jo) (zb (¬ jr = 0 ∧ ¬ mj = 0)) (wF E q g R jb jr lf jf rd vr ke ne si ro de nj mj da re jo) := by
  refine zC_of (cc := cX2_hasNewestOfJob) (maxL := 2) (by decide) rfl (Nat.le_of_ble_eq_true rfl) ?_
  intro p e s m below meth c ls A hx hb hr hts hown hlocks hml hK hA hS hP hD hl
  have hown : s.vm.findClass RX2 = some m.cls := hown
  have hl : lv_has ls 2 [(0, .ref (q 0)), (1, .ref (gq q g 0))] := hl
  have hinX2 : ∀ v ∈ u_ws RX2 TX2 7, v ∈ wsX2_hasNewestOfJob := by decide +kernel
  have hinX0 : ∀ v ∈ u_ws RX0 TX0 10, v ∈ wsX2_hasNewestOfJob := by decide +kernel
  have hf_21 := hts (.fieldLink RX2 21 "GenerationNames$State" "jobRuns" "Z") (by decide +kernel)
  have hf_53 := hts (.fieldLink RX2 53 "GenerationNames$Group" "madeByJob" "I") (by decide +kernel)
  refine lv_aload_n hx hb dX2_hasNewestOfJob_0 rfl (lv_at hl 0 rfl) ?_
  refine va_get (D := E.1) (cl := vwCl) (ci := 2) (v := .int (iI jr)) (C := RX2) (T := TX2) (N := 7) hx hb hts hinX2 hown hK hP 0 rfl rfl 2 (by decide) hf_21 (fun _ h => h) rfl dX2_hasNewestOfJob_1 ?_
  refine z_if_eq (tgt := 18) hx hb dX2_hasNewestOfJob_4 (by decide) ⟨by omega, by omega⟩ (fun c_4 => ?_) (fun c_4 => ?_)
  · refine lv_iconst (v := iI 0) hx hb dX2_hasNewestOfJob_18 (by decide) ?_
    exact z_zret hx hb hr hlocks hK hS (Or.inl rfl) () (by first | rfl | trivial | exact zb_t' (by omega) | exact zb_f' (by omega) | omega) hP hD dX2_hasNewestOfJob_19
  · refine lv_aload_n hx hb dX2_hasNewestOfJob_7 rfl (lv_at hl 1 rfl) ?_
    refine va_get (D := E.1) (cl := vwCl) (ci := 0) (v := .int (iI mj)) (C := RX0) (T := TX0) (N := 10) hx hb hts hinX0 hown hK hP 2 rfl rfl 6 (by decide) hf_53 (fun _ h => h) rfl dX2_hasNewestOfJob_8 ?_
    refine z_if_eq (tgt := 18) hx hb dX2_hasNewestOfJob_11 (by decide) ⟨by omega, by omega⟩ (fun c_11 => ?_) (fun c_11 => ?_)
    · refine lv_iconst (v := iI 0) hx hb dX2_hasNewestOfJob_18 (by decide) ?_
      exact z_zret hx hb hr hlocks hK hS (Or.inl rfl) () (by first | rfl | trivial | exact zb_t' (by omega) | exact zb_f' (by omega) | omega) hP hD dX2_hasNewestOfJob_19
    · refine lv_iconst (v := iI 1) hx hb dX2_hasNewestOfJob_14 (by decide) ?_
      refine lv_goto (tgt := 19) hx hb dX2_hasNewestOfJob_15 (by decide) ?_
      exact z_zret hx hb hr hlocks hK hS (Or.inr rfl) () (by first | rfl | trivial | exact zb_t' (by omega) | exact zb_f' (by omega) | omega) hP hD dX2_hasNewestOfJob_19

theorem ndX2_changeKeep : yX2_changeKeep.cls = RX2 ∧ yX2_changeKeep.cls ≠ "java/lang/invoke/MethodHandle" ∧ yX2_changeKeep.cls ≠ "java/lang/invoke/VarHandle" ∧ (parseMethodDescriptor yX2_changeKeep.desc).map (fun d => d.parameters.length) = some 2 := by decide +kernel
set_option maxRecDepth 100000 in
set_option maxHeartbeats 1000000 in
theorem c_X2_changeKeep (l : Launch) (E : zE) (q : Nat → Nat) (jb jr lf jf rd vr : Int) (G : Int → zGr) (gr : Int) (k : Int) (h0 : rg gr) (h1 : rg k) (h2 : SI G) : zF l E yX2_changeKeep wsX2_changeKeep 2 42 [.ref (q 0), .int (iI gr), .int (iI k)] (wSt E q jb jr lf jf rd vr G) (if ¬ (0 ≤ gr ∧ gr ≤ 5) then -1 else if ¬ (1 ≤ k ∧ k ≤ 8) then -2 else G gr 0 0) (wSt E q jb jr lf jf rd vr (if 0 ≤ gr ∧ gr ≤ 5 ∧ 1 ≤ k ∧ k ≤ 8 then gU G gr (xK (G gr) k) else G)) := by
  have hsi := h2
  refine zC_of (cc := cX2_changeKeep) (maxL := 5) (by decide) rfl (Nat.le_of_ble_eq_true rfl) ?_
  intro p e s m below meth c ls A hx hb hr hts hown hlocks hml hK hA hS hP hD hl
  have hown : s.vm.findClass RX2 = some m.cls := hown
  have hl : lv_has ls 5 [(0, .ref (q 0)), (1, .int (iI gr)), (2, .int (iI k))] := hl
  have hinX2 : ∀ v ∈ u_ws RX2 TX2 7, v ∈ wsX2_changeKeep := by decide +kernel
  have hinX0 : ∀ v ∈ u_ws RX0 TX0 10, v ∈ wsX2_changeKeep := by decide +kernel
  have hf_11 := hts (.fieldLink RX2 11 "GenerationNames$State" "groups" "[LGenerationNames$Group;") (by decide +kernel)
  have hf_46 := hts (.fieldLink RX2 46 "GenerationNames$Group" "keep" "I") (by decide +kernel)
  refine lv_aload_n hx hb dX2_changeKeep_0 rfl (lv_at hl 0 rfl) ?_
  refine lv_iload_n hx hb dX2_changeKeep_1 rfl (lv_at hl 1 rfl) ?_
  refine z_callV0 (ci := 2) (qk := 0) (As := [.int (iI gr)]) (rest := []) hx hb hml hown hts hK hA hl.1 hP hD hS (c_X2_isGroup l E q jb jr lf jf rd vr G gr  (by first | omega | exact hx3 | exact hx3 _ (by omega) (by omega) | exact ⟨by omega, by omega⟩)) gX2_changeKeep_X2_isGroup rfl ndX2_isGroup ⟨Nat.le_of_ble_eq_true rfl, Nat.le_of_ble_eq_true rfl⟩ rfl rfl rfl rfl rfl (Nat.le_of_ble_eq_true rfl) dX2_changeKeep_2 ⟨Nat.le_of_ble_eq_true rfl, Nat.le_of_ble_eq_true rfl⟩ (fun x u H locs hpost hP hD hS => ?_)
  subst hpost
  have hP : va_P E.1 vwCl (wSt E q jb jr lf jf rd vr G) H := hP
  have hD : va_D A (wSt E q jb jr lf jf rd vr G) := hD
  refine z_ifb_ne (tgt := 10) hx hb dX2_changeKeep_5 (by decide) (fun c_5 => ?_) (fun c_5 => ?_)
  · refine lv_iload_n hx hb dX2_changeKeep_10 rfl (lv_at hl 2 rfl) ?_
    refine lv_iconst (v := iI 1) hx hb dX2_changeKeep_11 (by decide) ?_
    refine z_icmp_lt (tgt := 21) hx hb dX2_changeKeep_12 (by decide) ⟨by omega, by omega⟩ ⟨by omega, by omega⟩ (fun c_12 => ?_) (fun c_12 => ?_)
    · refine lv_bipush (v := iI (-2)) hx hb dX2_changeKeep_21 (by decide) ?_
      have eqc_G : (if 0 ≤ gr ∧ gr ≤ 5 ∧ 1 ≤ k ∧ k ≤ 8 then gU G gr (xK (G gr) k) else G) = G := by (first | rw [if_pos (by omega)] | rw [if_neg (by omega)])
      have hP : va_P E.1 vwCl (wSt E q jb jr lf jf rd vr (if 0 ≤ gr ∧ gr ≤ 5 ∧ 1 ≤ k ∧ k ≤ 8 then gU G gr (xK (G gr) k) else G)) H := by rw [eqc_G]; exact hP
      have hD : va_D A (wSt E q jb jr lf jf rd vr (if 0 ≤ gr ∧ gr ≤ 5 ∧ 1 ≤ k ∧ k ≤ 8 then gU G gr (xK (G gr) k) else G)) := by rw [eqc_G]; exact hD
      exact z_iret hx hb hr hlocks hK hS () (by (repeat (first | with_reducible rfl | rw [if_pos (by omega)] | rw [if_neg (by omega)]))) hP hD dX2_changeKeep_23
    · refine lv_iload_n hx hb dX2_changeKeep_15 rfl (lv_at hl 2 rfl) ?_
      refine lv_bipush (v := iI 8) hx hb dX2_changeKeep_16 (by decide) ?_
      refine z_icmp_le (tgt := 24) hx hb dX2_changeKeep_18 (by decide) ⟨by omega, by omega⟩ ⟨by omega, by omega⟩ (fun c_18 => ?_) (fun c_18 => ?_)
      · refine lv_aload_n hx hb dX2_changeKeep_24 rfl (lv_at hl 0 rfl) ?_
        refine va_get (D := E.1) (cl := vwCl) (ci := 2) (v := .ref (q 1)) (C := RX2) (T := TX2) (N := 7) hx hb hts hinX2 hown hK hP 0 rfl rfl 0 (by decide) hf_11 (fun _ h => h) rfl dX2_changeKeep_25 ?_
        refine lv_iload_n hx hb dX2_changeKeep_28 rfl (lv_at hl 1 rfl) ?_
        refine z_aald (D := E.1) (cl := vwCl) (tys := zT E) (f := fun j : Nat => q (2 + 4 * j)) hx hb hK hP 1 3 rfl rfl (by omega) (by omega) (by omega) dX2_changeKeep_29 ?_
        refine W.eq (g2 := F0 m 30 ls [.ref (gq q gr 0)]) rfl ?_
        have hP := zP_perm hP (wS_perm (g := gr) (by omega))
        have hD := zD_perm hD (wS_perm (g := gr) (by omega))
        obtain ⟨hx1, hx2, hx3, hx4, hx5, hx6⟩ := hsi gr (by omega) (by omega)
        have hP : va_P E.1 vwCl (wF E q gr (wR E q G gr) jb jr lf jf rd vr (G gr 0 0) (G gr 0 1) (G gr 0 2) (G gr 0 3) (G gr 0 4) (G gr 0 5) (G gr 0 6) (G gr 1) (G gr 2) (G gr 3)) H := hP
        have hD : va_D A (wF E q gr (wR E q G gr) jb jr lf jf rd vr (G gr 0 0) (G gr 0 1) (G gr 0 2) (G gr 0 3) (G gr 0 4) (G gr 0 5) (G gr 0 6) (G gr 1) (G gr 2) (G gr 3)) := hD
        refine lv_astore_n (lv' := [(3, .ref (gq q gr 0)), (0, .ref (q 0)), (1, .int (iI gr)), (2, .int (iI k))]) hx hb dX2_changeKeep_30 rfl hl (by decide) rfl (fun ls hl => ?_)
        refine lv_aload_n hx hb dX2_changeKeep_31 rfl (lv_at hl 0 rfl) ?_
        refine va_get (D := E.1) (cl := vwCl) (ci := 0) (v := .int (iI (G gr 0 0))) (C := RX0) (T := TX0) (N := 10) hx hb hts hinX0 hown hK hP 2 rfl rfl 0 (by decide) hf_46 (fun _ h => h) rfl dX2_changeKeep_32 ?_
        refine lv_istore (lv' := [(4, .int (iI (G gr 0 0))), (3, .ref (gq q gr 0)), (0, .ref (q 0)), (1, .int (iI gr)), (2, .int (iI k))]) hx hb dX2_changeKeep_35 hl (by decide) rfl (fun ls hl => ?_)
        refine lv_aload_n hx hb dX2_changeKeep_37 rfl (lv_at hl 1 rfl) ?_
        refine lv_iload_n hx hb dX2_changeKeep_38 rfl (lv_at hl 4 rfl) ?_
        refine va_put (D := E.1) (cl := vwCl) (ci := 0) (v := .int (iI k)) (ty := .int) (C := RX0) (T := TX0) (N := 10) hx hb hts hinX0 tyX0 tyX0_ok nmX0 hown hK hP hD hS 2 rfl rfl 0 (by decide) hf_46 (fun _ h => h) rfl (by decide +kernel) (rfl) (rfl) (Nat.le_of_ble_eq_true rfl) dX2_changeKeep_39 (fun H locs hP hD hS => ?_)
        have hP : va_P E.1 vwCl (wF E q gr (wR E q G gr) jb jr lf jf rd vr k (G gr 0 1) (G gr 0 2) (G gr 0 3) (G gr 0 4) (G gr 0 5) (G gr 0 6) (G gr 1) (G gr 2) (G gr 3)) H := hP
        have hD : va_D A (wF E q gr (wR E q G gr) jb jr lf jf rd vr k (G gr 0 1) (G gr 0 2) (G gr 0 3) (G gr 0 4) (G gr 0 5) (G gr 0 6) (G gr 1) (G gr 2) (G gr 3)) := hD
        refine lv_aload_n hx hb dX2_changeKeep_42 rfl (lv_at hl 1 rfl) ?_
        refine lv_iload_n hx hb dX2_changeKeep_43 rfl (lv_at hl 4 rfl) ?_
        refine z_callMv (w0 := wS2 E q jb jr lf jf rd vr) (ci := 0) (qk := 0) (As := [.int (iI k)]) (rest := []) hx hb hml hown hts hK hA hl.1 hP hD hS (c_X0_leaveMost l E (gq q gr) (G gr 1) (G gr 2) (G gr 3) k (G gr 0 1) (G gr 0 2) (G gr 0 3) (G gr 0 4) (G gr 0 5) (G gr 0 6) k  (by first | omega | exact hx3 | exact hx3 _ (by omega) (by omega) | exact ⟨by omega, by omega⟩) (by first | omega | exact hx3 | exact hx3 _ (by omega) (by omega) | exact ⟨by omega, by omega⟩) (by first | omega | exact hx3 | exact hx3 _ (by omega) (by omega) | exact ⟨by omega, by omega⟩) (by first | omega | exact hx3 | exact hx3 _ (by omega) (by omega) | exact ⟨by omega, by omega⟩)) gX2_changeKeep_X0_leaveMost rfl ndX0_leaveMost ⟨Nat.le_of_ble_eq_true rfl, Nat.le_of_ble_eq_true rfl⟩ rfl rfl rfl rfl rfl (Nat.le_of_ble_eq_true rfl) dX2_changeKeep_44 ⟨Nat.le_of_ble_eq_true rfl, Nat.le_of_ble_eq_true rfl⟩ (fun u H locs hpost hP hD hS => ?_)
        have hP : va_P E.1 vwCl (wF E q gr (wR E q G gr) jb jr lf jf rd vr k (G gr 0 1) ((cL (G gr 1) (G gr 0 1) k (G gr 0 2) (G gr 0 3)).1) ((cL (G gr 1) (G gr 0 1) k (G gr 0 2) (G gr 0 3)).2) (G gr 0 4) (G gr 0 5) (G gr 0 6) (G gr 1) (G gr 2) (G gr 3)) H := hP
        have hD : va_D A (wF E q gr (wR E q G gr) jb jr lf jf rd vr k (G gr 0 1) ((cL (G gr 1) (G gr 0 1) k (G gr 0 2) (G gr 0 3)).1) ((cL (G gr 1) (G gr 0 1) k (G gr 0 2) (G gr 0 3)).2) (G gr 0 4) (G gr 0 5) (G gr 0 6) (G gr 1) (G gr 2) (G gr 3)) := hD
        refine lv_iload hx hb dX2_changeKeep_47 (lv_at hl 0 rfl) ?_
        have hP : va_P E.1 vwCl (wSt E q jb jr lf jf rd vr (gU G gr (xK (G gr) k))) H := zP_perm hP (wF_perm (g := gr) (by omega))
        have hD : va_D A (wSt E q jb jr lf jf rd vr (gU G gr (xK (G gr) k))) := zD_perm hD (wF_perm (g := gr) (by omega))
        have eqc_G : (if 0 ≤ gr ∧ gr ≤ 5 ∧ 1 ≤ k ∧ k ≤ 8 then gU G gr (xK (G gr) k) else G) = (gU G gr (xK (G gr) k)) := by (first | rw [if_pos (by omega)] | rw [if_neg (by omega)])
        have hP : va_P E.1 vwCl (wSt E q jb jr lf jf rd vr (if 0 ≤ gr ∧ gr ≤ 5 ∧ 1 ≤ k ∧ k ≤ 8 then gU G gr (xK (G gr) k) else G)) H := by rw [eqc_G]; exact hP
        have hD : va_D A (wSt E q jb jr lf jf rd vr (if 0 ≤ gr ∧ gr ≤ 5 ∧ 1 ≤ k ∧ k ≤ 8 then gU G gr (xK (G gr) k) else G)) := by rw [eqc_G]; exact hD
        exact z_iret hx hb hr hlocks hK hS () (by (repeat (first | with_reducible rfl | rw [if_pos (by omega)] | rw [if_neg (by omega)]))) hP hD dX2_changeKeep_49
      · refine lv_bipush (v := iI (-2)) hx hb dX2_changeKeep_21 (by decide) ?_
        have eqc_G : (if 0 ≤ gr ∧ gr ≤ 5 ∧ 1 ≤ k ∧ k ≤ 8 then gU G gr (xK (G gr) k) else G) = G := by (first | rw [if_pos (by omega)] | rw [if_neg (by omega)])
        have hP : va_P E.1 vwCl (wSt E q jb jr lf jf rd vr (if 0 ≤ gr ∧ gr ≤ 5 ∧ 1 ≤ k ∧ k ≤ 8 then gU G gr (xK (G gr) k) else G)) H := by rw [eqc_G]; exact hP
        have hD : va_D A (wSt E q jb jr lf jf rd vr (if 0 ≤ gr ∧ gr ≤ 5 ∧ 1 ≤ k ∧ k ≤ 8 then gU G gr (xK (G gr) k) else G)) := by rw [eqc_G]; exact hD
        exact z_iret hx hb hr hlocks hK hS () (by (repeat (first | with_reducible rfl | rw [if_pos (by omega)] | rw [if_neg (by omega)]))) hP hD dX2_changeKeep_23
  · refine lv_iconst (v := iI (-1)) hx hb dX2_changeKeep_8 (by decide) ?_
    have eqc_G : (if 0 ≤ gr ∧ gr ≤ 5 ∧ 1 ≤ k ∧ k ≤ 8 then gU G gr (xK (G gr) k) else G) = G := by (first | rw [if_pos (by omega)] | rw [if_neg (by omega)])
    have hP : va_P E.1 vwCl (wSt E q jb jr lf jf rd vr (if 0 ≤ gr ∧ gr ≤ 5 ∧ 1 ≤ k ∧ k ≤ 8 then gU G gr (xK (G gr) k) else G)) H := by rw [eqc_G]; exact hP
    have hD : va_D A (wSt E q jb jr lf jf rd vr (if 0 ≤ gr ∧ gr ≤ 5 ∧ 1 ≤ k ∧ k ≤ 8 then gU G gr (xK (G gr) k) else G)) := by rw [eqc_G]; exact hD
    exact z_iret hx hb hr hlocks hK hS () (by (repeat (first | with_reducible rfl | rw [if_pos (by omega)] | rw [if_neg (by omega)]))) hP hD dX2_changeKeep_9

theorem ndX2_writeByName : yX2_writeByName.cls = RX2 ∧ yX2_writeByName.cls ≠ "java/lang/invoke/MethodHandle" ∧ yX2_writeByName.cls ≠ "java/lang/invoke/VarHandle" ∧ (parseMethodDescriptor yX2_writeByName.desc).map (fun d => d.parameters.length) = some 3 := by decide +kernel
set_option maxRecDepth 100000 in
set_option maxHeartbeats 1000000 in
theorem c_X2_writeByName (l : Launch) (E : zE) (q : Nat → Nat) (jb jr lf jf rd vr : Int) (G : Int → zGr) (gr : Int) (n : Int) (d : Int) (h0 : rg gr) (h1 : rg n) (h2 : rg d) (h3 : SI G) (h4 : jr = 0 ∨ jr = 1) : zF l E yX2_writeByName wsX2_writeByName 3 65 [.ref (q 0), .int (iI gr), .int (iI n), .int (iI d)] (wSt E q jb jr lf jf rd vr G) (if ¬ (0 ≤ gr ∧ gr ≤ 5) then -1 else if ¬ (-7 ≤ n ∧ n ≤ 1 ∧ 0 ≤ d ∧ d ≤ 9999) then -2 else if (n = 1 ∧ ¬ (¬ jr = 0 ∧ ¬ G gr 0 6 = 0)) then nO (G gr 0 1 + 1) else if thP (G gr 0 1) (G gr 0 2) (G gr 1) (sOf (G gr 0 1) (G gr 0 5) (G gr 0 6) n jr) then nO (sOf (G gr 0 1) (G gr 0 5) (G gr 0 6) n jr) else -5) (wSt E q jb jr lf jf rd vr (if 0 ≤ gr ∧ gr ≤ 5 ∧ -7 ≤ n ∧ n ≤ 1 ∧ 0 ≤ d ∧ d ≤ 9999 then (if (n = 1 ∧ ¬ (¬ jr = 0 ∧ ¬ G gr 0 6 = 0)) then gU G gr (xMk (G gr) d (if jr = 0 then 0 else jb)) else if thP (G gr 0 1) (G gr 0 2) (G gr 1) (sOf (G gr 0 1) (G gr 0 5) (G gr 0 6) n jr) then gU G gr (xDa (G gr) (sOf (G gr 0 1) (G gr 0 5) (G gr 0 6) n jr) d) else G) else G)) := by
  have hsi := h3
  refine zC_of (cc := cX2_writeByName) (maxL := 6) (by decide) rfl (Nat.le_of_ble_eq_true rfl) ?_
  intro p e s m below meth c ls A hx hb hr hts hown hlocks hml hK hA hS hP hD hl
  have hown : s.vm.findClass RX2 = some m.cls := hown
  have hl : lv_has ls 6 [(0, .ref (q 0)), (1, .int (iI gr)), (2, .int (iI n)), (3, .int (iI d))] := hl
  have hinX2 : ∀ v ∈ u_ws RX2 TX2 7, v ∈ wsX2_writeByName := by decide +kernel
  have hinX0 : ∀ v ∈ u_ws RX0 TX0 10, v ∈ wsX2_writeByName := by decide +kernel
  have hf_11 := hts (.fieldLink RX2 11 "GenerationNames$State" "groups" "[LGenerationNames$Group;") (by decide +kernel)
  have hf_21 := hts (.fieldLink RX2 21 "GenerationNames$State" "jobRuns" "Z") (by decide +kernel)
  have hf_78 := hts (.fieldLink RX2 78 "GenerationNames$Group" "data" "[I") (by decide +kernel)
  have hf_17 := hts (.fieldLink RX2 17 "GenerationNames$State" "jobsBegun" "I") (by decide +kernel)
  refine lv_aload_n hx hb dX2_writeByName_0 rfl (lv_at hl 0 rfl) ?_
  refine lv_iload_n hx hb dX2_writeByName_1 rfl (lv_at hl 1 rfl) ?_
  refine z_callV0 (ci := 2) (qk := 0) (As := [.int (iI gr)]) (rest := []) hx hb hml hown hts hK hA hl.1 hP hD hS (c_X2_isGroup l E q jb jr lf jf rd vr G gr  (by first | omega | exact hx3 | exact hx3 _ (by omega) (by omega) | exact ⟨by omega, by omega⟩)) gX2_writeByName_X2_isGroup rfl ndX2_isGroup ⟨Nat.le_of_ble_eq_true rfl, Nat.le_of_ble_eq_true rfl⟩ rfl rfl rfl rfl rfl (Nat.le_of_ble_eq_true rfl) dX2_writeByName_2 ⟨Nat.le_of_ble_eq_true rfl, Nat.le_of_ble_eq_true rfl⟩ (fun x u H locs hpost hP hD hS => ?_)
  subst hpost
  have hP : va_P E.1 vwCl (wSt E q jb jr lf jf rd vr G) H := hP
  have hD : va_D A (wSt E q jb jr lf jf rd vr G) := hD
  refine z_ifb_ne (tgt := 10) hx hb dX2_writeByName_5 (by decide) (fun c_5 => ?_) (fun c_5 => ?_)
  · refine lv_aload_n hx hb dX2_writeByName_10 rfl (lv_at hl 0 rfl) ?_
    refine lv_iload_n hx hb dX2_writeByName_11 rfl (lv_at hl 2 rfl) ?_
    refine z_callV0 (ci := 2) (qk := 0) (As := [.int (iI n)]) (rest := []) hx hb hml hown hts hK hA hl.1 hP hD hS (c_X2_isName l E q jb jr lf jf rd vr G n  (by first | omega | exact hx3 | exact hx3 _ (by omega) (by omega) | exact ⟨by omega, by omega⟩)) gX2_writeByName_X2_isName rfl ndX2_isName ⟨Nat.le_of_ble_eq_true rfl, Nat.le_of_ble_eq_true rfl⟩ rfl rfl rfl rfl rfl (Nat.le_of_ble_eq_true rfl) dX2_writeByName_12 ⟨Nat.le_of_ble_eq_true rfl, Nat.le_of_ble_eq_true rfl⟩ (fun x u H locs hpost hP hD hS => ?_)
    subst hpost
    have hP : va_P E.1 vwCl (wSt E q jb jr lf jf rd vr G) H := hP
    have hD : va_D A (wSt E q jb jr lf jf rd vr G) := hD
    refine z_ifb_eq (tgt := 29) hx hb dX2_writeByName_15 (by decide) (fun c_15 => ?_) (fun c_15 => ?_)
    · refine lv_bipush (v := iI (-2)) hx hb dX2_writeByName_29 (by decide) ?_
      have eqc_G : (if 0 ≤ gr ∧ gr ≤ 5 ∧ -7 ≤ n ∧ n ≤ 1 ∧ 0 ≤ d ∧ d ≤ 9999 then (if (n = 1 ∧ ¬ (¬ jr = 0 ∧ ¬ G gr 0 6 = 0)) then gU G gr (xMk (G gr) d (if jr = 0 then 0 else jb)) else if thP (G gr 0 1) (G gr 0 2) (G gr 1) (sOf (G gr 0 1) (G gr 0 5) (G gr 0 6) n jr) then gU G gr (xDa (G gr) (sOf (G gr 0 1) (G gr 0 5) (G gr 0 6) n jr) d) else G) else G) = G := by (repeat (first | with_reducible rfl | rw [if_pos (by omega)] | rw [if_neg (by omega)]))
      have hP : va_P E.1 vwCl (wSt E q jb jr lf jf rd vr (if 0 ≤ gr ∧ gr ≤ 5 ∧ -7 ≤ n ∧ n ≤ 1 ∧ 0 ≤ d ∧ d ≤ 9999 then (if (n = 1 ∧ ¬ (¬ jr = 0 ∧ ¬ G gr 0 6 = 0)) then gU G gr (xMk (G gr) d (if jr = 0 then 0 else jb)) else if thP (G gr 0 1) (G gr 0 2) (G gr 1) (sOf (G gr 0 1) (G gr 0 5) (G gr 0 6) n jr) then gU G gr (xDa (G gr) (sOf (G gr 0 1) (G gr 0 5) (G gr 0 6) n jr) d) else G) else G)) H := by rw [eqc_G]; exact hP
      have hD : va_D A (wSt E q jb jr lf jf rd vr (if 0 ≤ gr ∧ gr ≤ 5 ∧ -7 ≤ n ∧ n ≤ 1 ∧ 0 ≤ d ∧ d ≤ 9999 then (if (n = 1 ∧ ¬ (¬ jr = 0 ∧ ¬ G gr 0 6 = 0)) then gU G gr (xMk (G gr) d (if jr = 0 then 0 else jb)) else if thP (G gr 0 1) (G gr 0 2) (G gr 1) (sOf (G gr 0 1) (G gr 0 5) (G gr 0 6) n jr) then gU G gr (xDa (G gr) (sOf (G gr 0 1) (G gr 0 5) (G gr 0 6) n jr) d) else G) else G)) := by rw [eqc_G]; exact hD
      exact z_iret hx hb hr hlocks hK hS () (by (repeat (first | with_reducible rfl | rw [if_pos (by omega)] | rw [if_neg (by omega)]))) hP hD dX2_writeByName_31
    · refine lv_iload_n hx hb dX2_writeByName_18 rfl (lv_at hl 3 rfl) ?_
      refine z_if_lt (tgt := 29) hx hb dX2_writeByName_19 (by decide) ⟨by omega, by omega⟩ (fun c_19 => ?_) (fun c_19 => ?_)
      · refine lv_bipush (v := iI (-2)) hx hb dX2_writeByName_29 (by decide) ?_
        have eqc_G : (if 0 ≤ gr ∧ gr ≤ 5 ∧ -7 ≤ n ∧ n ≤ 1 ∧ 0 ≤ d ∧ d ≤ 9999 then (if (n = 1 ∧ ¬ (¬ jr = 0 ∧ ¬ G gr 0 6 = 0)) then gU G gr (xMk (G gr) d (if jr = 0 then 0 else jb)) else if thP (G gr 0 1) (G gr 0 2) (G gr 1) (sOf (G gr 0 1) (G gr 0 5) (G gr 0 6) n jr) then gU G gr (xDa (G gr) (sOf (G gr 0 1) (G gr 0 5) (G gr 0 6) n jr) d) else G) else G) = G := by (repeat (first | with_reducible rfl | rw [if_pos (by omega)] | rw [if_neg (by omega)]))
        have hP : va_P E.1 vwCl (wSt E q jb jr lf jf rd vr (if 0 ≤ gr ∧ gr ≤ 5 ∧ -7 ≤ n ∧ n ≤ 1 ∧ 0 ≤ d ∧ d ≤ 9999 then (if (n = 1 ∧ ¬ (¬ jr = 0 ∧ ¬ G gr 0 6 = 0)) then gU G gr (xMk (G gr) d (if jr = 0 then 0 else jb)) else if thP (G gr 0 1) (G gr 0 2) (G gr 1) (sOf (G gr 0 1) (G gr 0 5) (G gr 0 6) n jr) then gU G gr (xDa (G gr) (sOf (G gr 0 1) (G gr 0 5) (G gr 0 6) n jr) d) else G) else G)) H := by rw [eqc_G]; exact hP
        have hD : va_D A (wSt E q jb jr lf jf rd vr (if 0 ≤ gr ∧ gr ≤ 5 ∧ -7 ≤ n ∧ n ≤ 1 ∧ 0 ≤ d ∧ d ≤ 9999 then (if (n = 1 ∧ ¬ (¬ jr = 0 ∧ ¬ G gr 0 6 = 0)) then gU G gr (xMk (G gr) d (if jr = 0 then 0 else jb)) else if thP (G gr 0 1) (G gr 0 2) (G gr 1) (sOf (G gr 0 1) (G gr 0 5) (G gr 0 6) n jr) then gU G gr (xDa (G gr) (sOf (G gr 0 1) (G gr 0 5) (G gr 0 6) n jr) d) else G) else G)) := by rw [eqc_G]; exact hD
        exact z_iret hx hb hr hlocks hK hS () (by (repeat (first | with_reducible rfl | rw [if_pos (by omega)] | rw [if_neg (by omega)]))) hP hD dX2_writeByName_31
      · refine lv_iload_n hx hb dX2_writeByName_22 rfl (lv_at hl 3 rfl) ?_
        refine lv_sipush (v := iI 9999) hx hb dX2_writeByName_23 (by decide) ?_
        refine z_icmp_le (tgt := 32) hx hb dX2_writeByName_26 (by decide) ⟨by omega, by omega⟩ ⟨by omega, by omega⟩ (fun c_26 => ?_) (fun c_26 => ?_)
        · refine lv_aload_n hx hb dX2_writeByName_32 rfl (lv_at hl 0 rfl) ?_
          refine va_get (D := E.1) (cl := vwCl) (ci := 2) (v := .ref (q 1)) (C := RX2) (T := TX2) (N := 7) hx hb hts hinX2 hown hK hP 0 rfl rfl 0 (by decide) hf_11 (fun _ h => h) rfl dX2_writeByName_33 ?_
          refine lv_iload_n hx hb dX2_writeByName_36 rfl (lv_at hl 1 rfl) ?_
          refine z_aald (D := E.1) (cl := vwCl) (tys := zT E) (f := fun j : Nat => q (2 + 4 * j)) hx hb hK hP 1 3 rfl rfl (by omega) (by omega) (by omega) dX2_writeByName_37 ?_
          refine W.eq (g2 := F0 m 38 ls [.ref (gq q gr 0)]) rfl ?_
          have hP := zP_perm hP (wS_perm (g := gr) (by omega))
          have hD := zD_perm hD (wS_perm (g := gr) (by omega))
          obtain ⟨hx1, hx2, hx3, hx4, hx5, hx6⟩ := hsi gr (by omega) (by omega)
          have hso := sOf_rg (ne := G gr 0 1) (nj := G gr 0 5) (mj := G gr 0 6) (n := n) (b := jr) (by omega) (by omega) (by omega) (by omega)
          have hP : va_P E.1 vwCl (wF E q gr (wR E q G gr) jb jr lf jf rd vr (G gr 0 0) (G gr 0 1) (G gr 0 2) (G gr 0 3) (G gr 0 4) (G gr 0 5) (G gr 0 6) (G gr 1) (G gr 2) (G gr 3)) H := hP
          have hD : va_D A (wF E q gr (wR E q G gr) jb jr lf jf rd vr (G gr 0 0) (G gr 0 1) (G gr 0 2) (G gr 0 3) (G gr 0 4) (G gr 0 5) (G gr 0 6) (G gr 1) (G gr 2) (G gr 3)) := hD
          refine lv_astore (lv' := [(4, .ref (gq q gr 0)), (0, .ref (q 0)), (1, .int (iI gr)), (2, .int (iI n)), (3, .int (iI d))]) hx hb dX2_writeByName_38 hl (by decide) rfl (fun ls hl => ?_)
          refine lv_iload_n hx hb dX2_writeByName_40 rfl (lv_at hl 3 rfl) ?_
          refine lv_iconst (v := iI 1) hx hb dX2_writeByName_41 (by decide) ?_
          refine z_icmp_ne (tgt := 81) hx hb dX2_writeByName_42 (by decide) ⟨by omega, by omega⟩ ⟨by omega, by omega⟩ (fun c_42 => ?_) (fun c_42 => ?_)
          · refine lv_aload hx hb dX2_writeByName_81 (lv_at hl 0 rfl) ?_
            refine lv_iload_n hx hb dX2_writeByName_83 rfl (lv_at hl 3 rfl) ?_
            refine lv_aload_n hx hb dX2_writeByName_84 rfl (lv_at hl 1 rfl) ?_
            refine va_get (D := E.1) (cl := vwCl) (ci := 2) (v := .int (iI jr)) (C := RX2) (T := TX2) (N := 7) hx hb hts hinX2 hown hK hP 0 rfl rfl 2 (by decide) hf_21 (fun _ h => h) rfl dX2_writeByName_85 ?_
            refine z_callM (w0 := wS2 E q jb jr lf jf rd vr) (ci := 0) (qk := 0) (As := [.int (iI n), .int (iI jr)]) (rest := []) hx hb hml hown hts hK hA hl.1 hP hD hS (c_X0_serialOf l E (gq q gr) (G gr 1) (G gr 2) (G gr 3) (G gr 0 0) (G gr 0 1) (G gr 0 2) (G gr 0 3) (G gr 0 4) (G gr 0 5) (G gr 0 6) n jr  (by first | omega | exact hx3 | exact hx3 _ (by omega) (by omega) | exact ⟨by omega, by omega⟩) (by first | omega | exact hx3 | exact hx3 _ (by omega) (by omega) | exact ⟨by omega, by omega⟩)) gX2_writeByName_X0_serialOf rfl ndX0_serialOf ⟨Nat.le_of_ble_eq_true rfl, Nat.le_of_ble_eq_true rfl⟩ rfl rfl rfl rfl rfl (Nat.le_of_ble_eq_true rfl) dX2_writeByName_88 ⟨Nat.le_of_ble_eq_true rfl, Nat.le_of_ble_eq_true rfl⟩ (fun x u H locs hpost hP hD hS => ?_)
            subst hpost
            have hP : va_P E.1 vwCl (wF E q gr (wR E q G gr) jb jr lf jf rd vr (G gr 0 0) (G gr 0 1) (G gr 0 2) (G gr 0 3) (G gr 0 4) (G gr 0 5) (G gr 0 6) (G gr 1) (G gr 2) (G gr 3)) H := hP
            have hD : va_D A (wF E q gr (wR E q G gr) jb jr lf jf rd vr (G gr 0 0) (G gr 0 1) (G gr 0 2) (G gr 0 3) (G gr 0 4) (G gr 0 5) (G gr 0 6) (G gr 1) (G gr 2) (G gr 3)) := hD
            refine lv_istore (lv' := [(5, .int (iI (sOf (G gr 0 1) (G gr 0 5) (G gr 0 6) n jr))), (4, .ref (gq q gr 0)), (0, .ref (q 0)), (1, .int (iI gr)), (2, .int (iI n)), (3, .int (iI d))]) hx hb dX2_writeByName_91 hl (by decide) rfl (fun ls hl => ?_)
            refine lv_aload hx hb dX2_writeByName_93 (lv_at hl 1 rfl) ?_
            refine lv_iload hx hb dX2_writeByName_95 (lv_at hl 0 rfl) ?_
            refine z_callM (w0 := wS2 E q jb jr lf jf rd vr) (ci := 0) (qk := 0) (As := [.int (iI (sOf (G gr 0 1) (G gr 0 5) (G gr 0 6) n jr))]) (rest := []) hx hb hml hown hts hK hA hl.1 hP hD hS (c_X0_isThere l E (gq q gr) (G gr 1) (G gr 2) (G gr 3) (G gr 0 0) (G gr 0 1) (G gr 0 2) (G gr 0 3) (G gr 0 4) (G gr 0 5) (G gr 0 6) (sOf (G gr 0 1) (G gr 0 5) (G gr 0 6) n jr)  (by first | omega | exact hx3 | exact hx3 _ (by omega) (by omega) | exact ⟨by omega, by omega⟩) (by first | omega | exact hx3 | exact hx3 _ (by omega) (by omega) | exact ⟨by omega, by omega⟩) (by first | omega | exact hx3 | exact hx3 _ (by omega) (by omega) | exact ⟨by omega, by omega⟩) (by first | omega | exact hx3 | exact hx3 _ (by omega) (by omega) | exact ⟨by omega, by omega⟩)) gX2_writeByName_X0_isThere rfl ndX0_isThere ⟨Nat.le_of_ble_eq_true rfl, Nat.le_of_ble_eq_true rfl⟩ rfl rfl rfl rfl rfl (Nat.le_of_ble_eq_true rfl) dX2_writeByName_97 ⟨Nat.le_of_ble_eq_true rfl, Nat.le_of_ble_eq_true rfl⟩ (fun x u H locs hpost hP hD hS => ?_)
            subst hpost
            have hP : va_P E.1 vwCl (wF E q gr (wR E q G gr) jb jr lf jf rd vr (G gr 0 0) (G gr 0 1) (G gr 0 2) (G gr 0 3) (G gr 0 4) (G gr 0 5) (G gr 0 6) (G gr 1) (G gr 2) (G gr 3)) H := hP
            have hD : va_D A (wF E q gr (wR E q G gr) jb jr lf jf rd vr (G gr 0 0) (G gr 0 1) (G gr 0 2) (G gr 0 3) (G gr 0 4) (G gr 0 5) (G gr 0 6) (G gr 1) (G gr 2) (G gr 3)) := hD
            refine z_ifb_ne (tgt := 106) hx hb dX2_writeByName_100 (by decide) (fun c_100 => ?_) (fun c_100 => ?_)
            · refine lv_aload hx hb dX2_writeByName_106 (lv_at hl 1 rfl) ?_
              refine va_get (D := E.1) (cl := vwCl) (ci := 0) (v := .ref (gq q gr 1)) (C := RX0) (T := TX0) (N := 10) hx hb hts hinX0 hown hK hP 2 rfl rfl 7 (by decide) hf_78 (fun _ h => h) rfl dX2_writeByName_108 ?_
              refine lv_iload hx hb dX2_writeByName_111 (lv_at hl 0 rfl) ?_
              refine lv_bipush (v := iI 7) hx hb dX2_writeByName_113 (by decide) ?_
              refine z_iand7 hx hb dX2_writeByName_115 ?_
              refine lv_iload_n hx hb dX2_writeByName_116 rfl (lv_at hl 5 rfl) ?_
              refine z_iast (D := E.1) (cl := vwCl) (tys := zT E) (f := (G gr 1)) hx hb hK hP hD hS 3 0 rfl rfl (by omega) (by omega) (by omega) dX2_writeByName_117 (fun H locs hP hD hS => ?_)
              have hP : va_P E.1 vwCl (wF E q gr (wR E q G gr) jb jr lf jf rd vr (G gr 0 0) (G gr 0 1) (G gr 0 2) (G gr 0 3) (G gr 0 4) (G gr 0 5) (G gr 0 6) (iU (G gr 1) ((sOf (G gr 0 1) (G gr 0 5) (G gr 0 6) n jr) % 8) d) (G gr 2) (G gr 3)) H := hP
              have hD : va_D A (wF E q gr (wR E q G gr) jb jr lf jf rd vr (G gr 0 0) (G gr 0 1) (G gr 0 2) (G gr 0 3) (G gr 0 4) (G gr 0 5) (G gr 0 6) (iU (G gr 1) ((sOf (G gr 0 1) (G gr 0 5) (G gr 0 6) n jr) % 8) d) (G gr 2) (G gr 3)) := hD
              refine lv_aload hx hb dX2_writeByName_118 (lv_at hl 1 rfl) ?_
              refine lv_iload hx hb dX2_writeByName_120 (lv_at hl 0 rfl) ?_
              refine z_callM (w0 := wS2 E q jb jr lf jf rd vr) (ci := 0) (qk := 0) (As := [.int (iI (sOf (G gr 0 1) (G gr 0 5) (G gr 0 6) n jr))]) (rest := []) hx hb hml hown hts hK hA hl.1 hP hD hS (c_X0_numberOf l E (gq q gr) (iU (G gr 1) ((sOf (G gr 0 1) (G gr 0 5) (G gr 0 6) n jr) % 8) d) (G gr 2) (G gr 3) (G gr 0 0) (G gr 0 1) (G gr 0 2) (G gr 0 3) (G gr 0 4) (G gr 0 5) (G gr 0 6) (sOf (G gr 0 1) (G gr 0 5) (G gr 0 6) n jr)  (by first | omega | exact hx3 | exact hx3 _ (by omega) (by omega) | exact ⟨by omega, by omega⟩)) gX2_writeByName_X0_numberOf rfl ndX0_numberOf ⟨Nat.le_of_ble_eq_true rfl, Nat.le_of_ble_eq_true rfl⟩ rfl rfl rfl rfl rfl (Nat.le_of_ble_eq_true rfl) dX2_writeByName_122 ⟨Nat.le_of_ble_eq_true rfl, Nat.le_of_ble_eq_true rfl⟩ (fun x u H locs hpost hP hD hS => ?_)
              subst hpost
              have hP : va_P E.1 vwCl (wF E q gr (wR E q G gr) jb jr lf jf rd vr (G gr 0 0) (G gr 0 1) (G gr 0 2) (G gr 0 3) (G gr 0 4) (G gr 0 5) (G gr 0 6) (iU (G gr 1) ((sOf (G gr 0 1) (G gr 0 5) (G gr 0 6) n jr) % 8) d) (G gr 2) (G gr 3)) H := hP
              have hD : va_D A (wF E q gr (wR E q G gr) jb jr lf jf rd vr (G gr 0 0) (G gr 0 1) (G gr 0 2) (G gr 0 3) (G gr 0 4) (G gr 0 5) (G gr 0 6) (iU (G gr 1) ((sOf (G gr 0 1) (G gr 0 5) (G gr 0 6) n jr) % 8) d) (G gr 2) (G gr 3)) := hD
              have hP : va_P E.1 vwCl (wSt E q jb jr lf jf rd vr (gU G gr (xDa (G gr) (sOf ((G gr) 0 1) ((G gr) 0 5) ((G gr) 0 6) n jr) d))) H := zP_perm hP (wF_perm (g := gr) (by omega))
              have hD : va_D A (wSt E q jb jr lf jf rd vr (gU G gr (xDa (G gr) (sOf ((G gr) 0 1) ((G gr) 0 5) ((G gr) 0 6) n jr) d))) := zD_perm hD (wF_perm (g := gr) (by omega))
              have eqc_G : (if 0 ≤ gr ∧ gr ≤ 5 ∧ -7 ≤ n ∧ n ≤ 1 ∧ 0 ≤ d ∧ d ≤ 9999 then (if (n = 1 ∧ ¬ (¬ jr = 0 ∧ ¬ G gr 0 6 = 0)) then gU G gr (xMk (G gr) d (if jr = 0 then 0 else jb)) else if thP (G gr 0 1) (G gr 0 2) (G gr 1) (sOf (G gr 0 1) (G gr 0 5) (G gr 0 6) n jr) then gU G gr (xDa (G gr) (sOf (G gr 0 1) (G gr 0 5) (G gr 0 6) n jr) d) else G) else G) = (gU G gr (xDa (G gr) (sOf ((G gr) 0 1) ((G gr) 0 5) ((G gr) 0 6) n jr) d)) := by (repeat (first | with_reducible rfl | rw [if_pos (by omega)] | rw [if_neg (by omega)]))
              have hP : va_P E.1 vwCl (wSt E q jb jr lf jf rd vr (if 0 ≤ gr ∧ gr ≤ 5 ∧ -7 ≤ n ∧ n ≤ 1 ∧ 0 ≤ d ∧ d ≤ 9999 then (if (n = 1 ∧ ¬ (¬ jr = 0 ∧ ¬ G gr 0 6 = 0)) then gU G gr (xMk (G gr) d (if jr = 0 then 0 else jb)) else if thP (G gr 0 1) (G gr 0 2) (G gr 1) (sOf (G gr 0 1) (G gr 0 5) (G gr 0 6) n jr) then gU G gr (xDa (G gr) (sOf (G gr 0 1) (G gr 0 5) (G gr 0 6) n jr) d) else G) else G)) H := by rw [eqc_G]; exact hP
              have hD : va_D A (wSt E q jb jr lf jf rd vr (if 0 ≤ gr ∧ gr ≤ 5 ∧ -7 ≤ n ∧ n ≤ 1 ∧ 0 ≤ d ∧ d ≤ 9999 then (if (n = 1 ∧ ¬ (¬ jr = 0 ∧ ¬ G gr 0 6 = 0)) then gU G gr (xMk (G gr) d (if jr = 0 then 0 else jb)) else if thP (G gr 0 1) (G gr 0 2) (G gr 1) (sOf (G gr 0 1) (G gr 0 5) (G gr 0 6) n jr) then gU G gr (xDa (G gr) (sOf (G gr 0 1) (G gr 0 5) (G gr 0 6) n jr) d) else G) else G)) := by rw [eqc_G]; exact hD
              exact z_iret hx hb hr hlocks hK hS () (by (repeat (first | with_reducible rfl | rw [if_pos (by omega)] | rw [if_neg (by omega)]))) hP hD dX2_writeByName_125
            · refine lv_bipush (v := iI (-5)) hx hb dX2_writeByName_103 (by decide) ?_
              have hP : va_P E.1 vwCl (wSt E q jb jr lf jf rd vr G) H := zP_perm hP (wS_perm (g := gr) (by omega)).symm
              have hD : va_D A (wSt E q jb jr lf jf rd vr G) := zD_perm hD (wS_perm (g := gr) (by omega)).symm
              have eqc_G : (if 0 ≤ gr ∧ gr ≤ 5 ∧ -7 ≤ n ∧ n ≤ 1 ∧ 0 ≤ d ∧ d ≤ 9999 then (if (n = 1 ∧ ¬ (¬ jr = 0 ∧ ¬ G gr 0 6 = 0)) then gU G gr (xMk (G gr) d (if jr = 0 then 0 else jb)) else if thP (G gr 0 1) (G gr 0 2) (G gr 1) (sOf (G gr 0 1) (G gr 0 5) (G gr 0 6) n jr) then gU G gr (xDa (G gr) (sOf (G gr 0 1) (G gr 0 5) (G gr 0 6) n jr) d) else G) else G) = G := by (repeat (first | with_reducible rfl | rw [if_pos (by omega)] | rw [if_neg (by omega)]))
              have hP : va_P E.1 vwCl (wSt E q jb jr lf jf rd vr (if 0 ≤ gr ∧ gr ≤ 5 ∧ -7 ≤ n ∧ n ≤ 1 ∧ 0 ≤ d ∧ d ≤ 9999 then (if (n = 1 ∧ ¬ (¬ jr = 0 ∧ ¬ G gr 0 6 = 0)) then gU G gr (xMk (G gr) d (if jr = 0 then 0 else jb)) else if thP (G gr 0 1) (G gr 0 2) (G gr 1) (sOf (G gr 0 1) (G gr 0 5) (G gr 0 6) n jr) then gU G gr (xDa (G gr) (sOf (G gr 0 1) (G gr 0 5) (G gr 0 6) n jr) d) else G) else G)) H := by rw [eqc_G]; exact hP
              have hD : va_D A (wSt E q jb jr lf jf rd vr (if 0 ≤ gr ∧ gr ≤ 5 ∧ -7 ≤ n ∧ n ≤ 1 ∧ 0 ≤ d ∧ d ≤ 9999 then (if (n = 1 ∧ ¬ (¬ jr = 0 ∧ ¬ G gr 0 6 = 0)) then gU G gr (xMk (G gr) d (if jr = 0 then 0 else jb)) else if thP (G gr 0 1) (G gr 0 2) (G gr 1) (sOf (G gr 0 1) (G gr 0 5) (G gr 0 6) n jr) then gU G gr (xDa (G gr) (sOf (G gr 0 1) (G gr 0 5) (G gr 0 6) n jr) d) else G) else G)) := by rw [eqc_G]; exact hD
              exact z_iret hx hb hr hlocks hK hS () (by (repeat (first | with_reducible rfl | rw [if_pos (by omega)] | rw [if_neg (by omega)]))) hP hD dX2_writeByName_105
          · refine lv_aload_n hx hb dX2_writeByName_45 rfl (lv_at hl 1 rfl) ?_
            refine lv_aload hx hb dX2_writeByName_46 (lv_at hl 0 rfl) ?_
            refine z_callV0 (ci := 2) (qk := 0) (As := [.ref (gq q gr 0)]) (rest := []) hx hb hml hown hts hK hA hl.1 hP hD hS (c_X2_hasNewestOfJob l E q gr (wR E q G gr) jb jr lf jf rd vr (G gr 0 0) (G gr 0 1) (G gr 0 2) (G gr 0 3) (G gr 0 4) (G gr 0 5) (G gr 0 6) (G gr 1) (G gr 2) (G gr 3)   (by first | omega | exact hx3 | exact hx3 _ (by omega) (by omega) | exact ⟨by omega, by omega⟩) (by first | omega | exact hx3 | exact hx3 _ (by omega) (by omega) | exact ⟨by omega, by omega⟩)) gX2_writeByName_X2_hasNewestOfJob rfl ndX2_hasNewestOfJob ⟨Nat.le_of_ble_eq_true rfl, Nat.le_of_ble_eq_true rfl⟩ rfl rfl rfl rfl rfl (Nat.le_of_ble_eq_true rfl) dX2_writeByName_48 ⟨Nat.le_of_ble_eq_true rfl, Nat.le_of_ble_eq_true rfl⟩ (fun x u H locs hpost hP hD hS => ?_)
            subst hpost
            have hP : va_P E.1 vwCl (wF E q gr (wR E q G gr) jb jr lf jf rd vr (G gr 0 0) (G gr 0 1) (G gr 0 2) (G gr 0 3) (G gr 0 4) (G gr 0 5) (G gr 0 6) (G gr 1) (G gr 2) (G gr 3)) H := hP
            have hD : va_D A (wF E q gr (wR E q G gr) jb jr lf jf rd vr (G gr 0 0) (G gr 0 1) (G gr 0 2) (G gr 0 3) (G gr 0 4) (G gr 0 5) (G gr 0 6) (G gr 1) (G gr 2) (G gr 3)) := hD
            refine z_ifb_ne (tgt := 81) hx hb dX2_writeByName_51 (by decide) (fun c_51 => ?_) (fun c_51 => ?_)
            · refine lv_aload hx hb dX2_writeByName_81 (lv_at hl 0 rfl) ?_
              refine lv_iload_n hx hb dX2_writeByName_83 rfl (lv_at hl 3 rfl) ?_
              refine lv_aload_n hx hb dX2_writeByName_84 rfl (lv_at hl 1 rfl) ?_
              refine va_get (D := E.1) (cl := vwCl) (ci := 2) (v := .int (iI jr)) (C := RX2) (T := TX2) (N := 7) hx hb hts hinX2 hown hK hP 0 rfl rfl 2 (by decide) hf_21 (fun _ h => h) rfl dX2_writeByName_85 ?_
              refine z_callM (w0 := wS2 E q jb jr lf jf rd vr) (ci := 0) (qk := 0) (As := [.int (iI n), .int (iI jr)]) (rest := []) hx hb hml hown hts hK hA hl.1 hP hD hS (c_X0_serialOf l E (gq q gr) (G gr 1) (G gr 2) (G gr 3) (G gr 0 0) (G gr 0 1) (G gr 0 2) (G gr 0 3) (G gr 0 4) (G gr 0 5) (G gr 0 6) n jr  (by first | omega | exact hx3 | exact hx3 _ (by omega) (by omega) | exact ⟨by omega, by omega⟩) (by first | omega | exact hx3 | exact hx3 _ (by omega) (by omega) | exact ⟨by omega, by omega⟩)) gX2_writeByName_X0_serialOf rfl ndX0_serialOf ⟨Nat.le_of_ble_eq_true rfl, Nat.le_of_ble_eq_true rfl⟩ rfl rfl rfl rfl rfl (Nat.le_of_ble_eq_true rfl) dX2_writeByName_88 ⟨Nat.le_of_ble_eq_true rfl, Nat.le_of_ble_eq_true rfl⟩ (fun x u H locs hpost hP hD hS => ?_)
              subst hpost
              have hP : va_P E.1 vwCl (wF E q gr (wR E q G gr) jb jr lf jf rd vr (G gr 0 0) (G gr 0 1) (G gr 0 2) (G gr 0 3) (G gr 0 4) (G gr 0 5) (G gr 0 6) (G gr 1) (G gr 2) (G gr 3)) H := hP
              have hD : va_D A (wF E q gr (wR E q G gr) jb jr lf jf rd vr (G gr 0 0) (G gr 0 1) (G gr 0 2) (G gr 0 3) (G gr 0 4) (G gr 0 5) (G gr 0 6) (G gr 1) (G gr 2) (G gr 3)) := hD
              refine lv_istore (lv' := [(5, .int (iI (sOf (G gr 0 1) (G gr 0 5) (G gr 0 6) n jr))), (4, .ref (gq q gr 0)), (0, .ref (q 0)), (1, .int (iI gr)), (2, .int (iI n)), (3, .int (iI d))]) hx hb dX2_writeByName_91 hl (by decide) rfl (fun ls hl => ?_)
              refine lv_aload hx hb dX2_writeByName_93 (lv_at hl 1 rfl) ?_
              refine lv_iload hx hb dX2_writeByName_95 (lv_at hl 0 rfl) ?_
              refine z_callM (w0 := wS2 E q jb jr lf jf rd vr) (ci := 0) (qk := 0) (As := [.int (iI (sOf (G gr 0 1) (G gr 0 5) (G gr 0 6) n jr))]) (rest := []) hx hb hml hown hts hK hA hl.1 hP hD hS (c_X0_isThere l E (gq q gr) (G gr 1) (G gr 2) (G gr 3) (G gr 0 0) (G gr 0 1) (G gr 0 2) (G gr 0 3) (G gr 0 4) (G gr 0 5) (G gr 0 6) (sOf (G gr 0 1) (G gr 0 5) (G gr 0 6) n jr)  (by first | omega | exact hx3 | exact hx3 _ (by omega) (by omega) | exact ⟨by omega, by omega⟩) (by first | omega | exact hx3 | exact hx3 _ (by omega) (by omega) | exact ⟨by omega, by omega⟩) (by first | omega | exact hx3 | exact hx3 _ (by omega) (by omega) | exact ⟨by omega, by omega⟩) (by first | omega | exact hx3 | exact hx3 _ (by omega) (by omega) | exact ⟨by omega, by omega⟩)) gX2_writeByName_X0_isThere rfl ndX0_isThere ⟨Nat.le_of_ble_eq_true rfl, Nat.le_of_ble_eq_true rfl⟩ rfl rfl rfl rfl rfl (Nat.le_of_ble_eq_true rfl) dX2_writeByName_97 ⟨Nat.le_of_ble_eq_true rfl, Nat.le_of_ble_eq_true rfl⟩ (fun x u H locs hpost hP hD hS => ?_)
              subst hpost
              have hP : va_P E.1 vwCl (wF E q gr (wR E q G gr) jb jr lf jf rd vr (G gr 0 0) (G gr 0 1) (G gr 0 2) (G gr 0 3) (G gr 0 4) (G gr 0 5) (G gr 0 6) (G gr 1) (G gr 2) (G gr 3)) H := hP
              have hD : va_D A (wF E q gr (wR E q G gr) jb jr lf jf rd vr (G gr 0 0) (G gr 0 1) (G gr 0 2) (G gr 0 3) (G gr 0 4) (G gr 0 5) (G gr 0 6) (G gr 1) (G gr 2) (G gr 3)) := hD
              refine z_ifb_ne (tgt := 106) hx hb dX2_writeByName_100 (by decide) (fun c_100 => ?_) (fun c_100 => ?_)
              · refine lv_aload hx hb dX2_writeByName_106 (lv_at hl 1 rfl) ?_
                refine va_get (D := E.1) (cl := vwCl) (ci := 0) (v := .ref (gq q gr 1)) (C := RX0) (T := TX0) (N := 10) hx hb hts hinX0 hown hK hP 2 rfl rfl 7 (by decide) hf_78 (fun _ h => h) rfl dX2_writeByName_108 ?_
                refine lv_iload hx hb dX2_writeByName_111 (lv_at hl 0 rfl) ?_
                refine lv_bipush (v := iI 7) hx hb dX2_writeByName_113 (by decide) ?_
                refine z_iand7 hx hb dX2_writeByName_115 ?_
                refine lv_iload_n hx hb dX2_writeByName_116 rfl (lv_at hl 5 rfl) ?_
                refine z_iast (D := E.1) (cl := vwCl) (tys := zT E) (f := (G gr 1)) hx hb hK hP hD hS 3 0 rfl rfl (by omega) (by omega) (by omega) dX2_writeByName_117 (fun H locs hP hD hS => ?_)
                have hP : va_P E.1 vwCl (wF E q gr (wR E q G gr) jb jr lf jf rd vr (G gr 0 0) (G gr 0 1) (G gr 0 2) (G gr 0 3) (G gr 0 4) (G gr 0 5) (G gr 0 6) (iU (G gr 1) ((sOf (G gr 0 1) (G gr 0 5) (G gr 0 6) n jr) % 8) d) (G gr 2) (G gr 3)) H := hP
                have hD : va_D A (wF E q gr (wR E q G gr) jb jr lf jf rd vr (G gr 0 0) (G gr 0 1) (G gr 0 2) (G gr 0 3) (G gr 0 4) (G gr 0 5) (G gr 0 6) (iU (G gr 1) ((sOf (G gr 0 1) (G gr 0 5) (G gr 0 6) n jr) % 8) d) (G gr 2) (G gr 3)) := hD
                refine lv_aload hx hb dX2_writeByName_118 (lv_at hl 1 rfl) ?_
                refine lv_iload hx hb dX2_writeByName_120 (lv_at hl 0 rfl) ?_
                refine z_callM (w0 := wS2 E q jb jr lf jf rd vr) (ci := 0) (qk := 0) (As := [.int (iI (sOf (G gr 0 1) (G gr 0 5) (G gr 0 6) n jr))]) (rest := []) hx hb hml hown hts hK hA hl.1 hP hD hS (c_X0_numberOf l E (gq q gr) (iU (G gr 1) ((sOf (G gr 0 1) (G gr 0 5) (G gr 0 6) n jr) % 8) d) (G gr 2) (G gr 3) (G gr 0 0) (G gr 0 1) (G gr 0 2) (G gr 0 3) (G gr 0 4) (G gr 0 5) (G gr 0 6) (sOf (G gr 0 1) (G gr 0 5) (G gr 0 6) n jr)  (by first | omega | exact hx3 | exact hx3 _ (by omega) (by omega) | exact ⟨by omega, by omega⟩)) gX2_writeByName_X0_numberOf rfl ndX0_numberOf ⟨Nat.le_of_ble_eq_true rfl, Nat.le_of_ble_eq_true rfl⟩ rfl rfl rfl rfl rfl (Nat.le_of_ble_eq_true rfl) dX2_writeByName_122 ⟨Nat.le_of_ble_eq_true rfl, Nat.le_of_ble_eq_true rfl⟩ (fun x u H locs hpost hP hD hS => ?_)
                subst hpost
                have hP : va_P E.1 vwCl (wF E q gr (wR E q G gr) jb jr lf jf rd vr (G gr 0 0) (G gr 0 1) (G gr 0 2) (G gr 0 3) (G gr 0 4) (G gr 0 5) (G gr 0 6) (iU (G gr 1) ((sOf (G gr 0 1) (G gr 0 5) (G gr 0 6) n jr) % 8) d) (G gr 2) (G gr 3)) H := hP
                have hD : va_D A (wF E q gr (wR E q G gr) jb jr lf jf rd vr (G gr 0 0) (G gr 0 1) (G gr 0 2) (G gr 0 3) (G gr 0 4) (G gr 0 5) (G gr 0 6) (iU (G gr 1) ((sOf (G gr 0 1) (G gr 0 5) (G gr 0 6) n jr) % 8) d) (G gr 2) (G gr 3)) := hD
                have hP : va_P E.1 vwCl (wSt E q jb jr lf jf rd vr (gU G gr (xDa (G gr) (sOf ((G gr) 0 1) ((G gr) 0 5) ((G gr) 0 6) n jr) d))) H := zP_perm hP (wF_perm (g := gr) (by omega))
                have hD : va_D A (wSt E q jb jr lf jf rd vr (gU G gr (xDa (G gr) (sOf ((G gr) 0 1) ((G gr) 0 5) ((G gr) 0 6) n jr) d))) := zD_perm hD (wF_perm (g := gr) (by omega))
                have eqc_G : (if 0 ≤ gr ∧ gr ≤ 5 ∧ -7 ≤ n ∧ n ≤ 1 ∧ 0 ≤ d ∧ d ≤ 9999 then (if (n = 1 ∧ ¬ (¬ jr = 0 ∧ ¬ G gr 0 6 = 0)) then gU G gr (xMk (G gr) d (if jr = 0 then 0 else jb)) else if thP (G gr 0 1) (G gr 0 2) (G gr 1) (sOf (G gr 0 1) (G gr 0 5) (G gr 0 6) n jr) then gU G gr (xDa (G gr) (sOf (G gr 0 1) (G gr 0 5) (G gr 0 6) n jr) d) else G) else G) = (gU G gr (xDa (G gr) (sOf ((G gr) 0 1) ((G gr) 0 5) ((G gr) 0 6) n jr) d)) := by (repeat (first | with_reducible rfl | rw [if_pos (by omega)] | rw [if_neg (by omega)]))
                have hP : va_P E.1 vwCl (wSt E q jb jr lf jf rd vr (if 0 ≤ gr ∧ gr ≤ 5 ∧ -7 ≤ n ∧ n ≤ 1 ∧ 0 ≤ d ∧ d ≤ 9999 then (if (n = 1 ∧ ¬ (¬ jr = 0 ∧ ¬ G gr 0 6 = 0)) then gU G gr (xMk (G gr) d (if jr = 0 then 0 else jb)) else if thP (G gr 0 1) (G gr 0 2) (G gr 1) (sOf (G gr 0 1) (G gr 0 5) (G gr 0 6) n jr) then gU G gr (xDa (G gr) (sOf (G gr 0 1) (G gr 0 5) (G gr 0 6) n jr) d) else G) else G)) H := by rw [eqc_G]; exact hP
                have hD : va_D A (wSt E q jb jr lf jf rd vr (if 0 ≤ gr ∧ gr ≤ 5 ∧ -7 ≤ n ∧ n ≤ 1 ∧ 0 ≤ d ∧ d ≤ 9999 then (if (n = 1 ∧ ¬ (¬ jr = 0 ∧ ¬ G gr 0 6 = 0)) then gU G gr (xMk (G gr) d (if jr = 0 then 0 else jb)) else if thP (G gr 0 1) (G gr 0 2) (G gr 1) (sOf (G gr 0 1) (G gr 0 5) (G gr 0 6) n jr) then gU G gr (xDa (G gr) (sOf (G gr 0 1) (G gr 0 5) (G gr 0 6) n jr) d) else G) else G)) := by rw [eqc_G]; exact hD
                exact z_iret hx hb hr hlocks hK hS () (by (repeat (first | with_reducible rfl | rw [if_pos (by omega)] | rw [if_neg (by omega)]))) hP hD dX2_writeByName_125
              · refine lv_bipush (v := iI (-5)) hx hb dX2_writeByName_103 (by decide) ?_
                have hP : va_P E.1 vwCl (wSt E q jb jr lf jf rd vr G) H := zP_perm hP (wS_perm (g := gr) (by omega)).symm
                have hD : va_D A (wSt E q jb jr lf jf rd vr G) := zD_perm hD (wS_perm (g := gr) (by omega)).symm
                have eqc_G : (if 0 ≤ gr ∧ gr ≤ 5 ∧ -7 ≤ n ∧ n ≤ 1 ∧ 0 ≤ d ∧ d ≤ 9999 then (if (n = 1 ∧ ¬ (¬ jr = 0 ∧ ¬ G gr 0 6 = 0)) then gU G gr (xMk (G gr) d (if jr = 0 then 0 else jb)) else if thP (G gr 0 1) (G gr 0 2) (G gr 1) (sOf (G gr 0 1) (G gr 0 5) (G gr 0 6) n jr) then gU G gr (xDa (G gr) (sOf (G gr 0 1) (G gr 0 5) (G gr 0 6) n jr) d) else G) else G) = G := by (repeat (first | with_reducible rfl | rw [if_pos (by omega)] | rw [if_neg (by omega)]))
                have hP : va_P E.1 vwCl (wSt E q jb jr lf jf rd vr (if 0 ≤ gr ∧ gr ≤ 5 ∧ -7 ≤ n ∧ n ≤ 1 ∧ 0 ≤ d ∧ d ≤ 9999 then (if (n = 1 ∧ ¬ (¬ jr = 0 ∧ ¬ G gr 0 6 = 0)) then gU G gr (xMk (G gr) d (if jr = 0 then 0 else jb)) else if thP (G gr 0 1) (G gr 0 2) (G gr 1) (sOf (G gr 0 1) (G gr 0 5) (G gr 0 6) n jr) then gU G gr (xDa (G gr) (sOf (G gr 0 1) (G gr 0 5) (G gr 0 6) n jr) d) else G) else G)) H := by rw [eqc_G]; exact hP
                have hD : va_D A (wSt E q jb jr lf jf rd vr (if 0 ≤ gr ∧ gr ≤ 5 ∧ -7 ≤ n ∧ n ≤ 1 ∧ 0 ≤ d ∧ d ≤ 9999 then (if (n = 1 ∧ ¬ (¬ jr = 0 ∧ ¬ G gr 0 6 = 0)) then gU G gr (xMk (G gr) d (if jr = 0 then 0 else jb)) else if thP (G gr 0 1) (G gr 0 2) (G gr 1) (sOf (G gr 0 1) (G gr 0 5) (G gr 0 6) n jr) then gU G gr (xDa (G gr) (sOf (G gr 0 1) (G gr 0 5) (G gr 0 6) n jr) d) else G) else G)) := by rw [eqc_G]; exact hD
                exact z_iret hx hb hr hlocks hK hS () (by (repeat (first | with_reducible rfl | rw [if_pos (by omega)] | rw [if_neg (by omega)]))) hP hD dX2_writeByName_105
            · refine lv_aload hx hb dX2_writeByName_54 (lv_at hl 0 rfl) ?_
              refine lv_aload hx hb dX2_writeByName_56 (lv_at hl 0 rfl) ?_
              refine lv_iload_n hx hb dX2_writeByName_58 rfl (lv_at hl 4 rfl) ?_
              refine lv_aload_n hx hb dX2_writeByName_59 rfl (lv_at hl 1 rfl) ?_
              refine va_get (D := E.1) (cl := vwCl) (ci := 2) (v := .int (iI jr)) (C := RX2) (T := TX2) (N := 7) hx hb hts hinX2 hown hK hP 0 rfl rfl 2 (by decide) hf_21 (fun _ h => h) rfl dX2_writeByName_60 ?_
              refine z_if_eq (tgt := 73) hx hb dX2_writeByName_63 (by decide) ⟨by omega, by omega⟩ (fun c_63 => ?_) (fun c_63 => ?_)
              · refine lv_iconst (v := iI 0) hx hb dX2_writeByName_73 (by decide) ?_
                refine z_callM (w0 := wS2 E q jb jr lf jf rd vr) (ci := 0) (qk := 0) (As := [.int (iI d), .int (iI 0)]) (rest := [.ref (gq q gr 0)]) hx hb hml hown hts hK hA hl.1 hP hD hS (c_X0_make l E (gq q gr) (G gr 1) (G gr 2) (G gr 3) (G gr 0 0) (G gr 0 1) (G gr 0 2) (G gr 0 3) (G gr 0 4) (G gr 0 5) (G gr 0 6) d 0  (by first | omega | exact hx3 | exact hx3 _ (by omega) (by omega) | exact ⟨by omega, by omega⟩) (by first | omega | exact hx3 | exact hx3 _ (by omega) (by omega) | exact ⟨by omega, by omega⟩) (by first | omega | exact hx3 | exact hx3 _ (by omega) (by omega) | exact ⟨by omega, by omega⟩) (by first | omega | exact hx3 | exact hx3 _ (by omega) (by omega) | exact ⟨by omega, by omega⟩)) gX2_writeByName_X0_make rfl ndX0_make ⟨Nat.le_of_ble_eq_true rfl, Nat.le_of_ble_eq_true rfl⟩ rfl rfl rfl rfl rfl (Nat.le_of_ble_eq_true rfl) dX2_writeByName_74 ⟨Nat.le_of_ble_eq_true rfl, Nat.le_of_ble_eq_true rfl⟩ (fun x u H locs hpost hP hD hS => ?_)
                subst hpost
                have hP : va_P E.1 vwCl (wF E q gr (wR E q G gr) jb jr lf jf rd vr (G gr 0 0) ((G gr 0 1) + 1) ((cL (G gr 1) (G gr 0 1) ((G gr 0 0) - 1) (G gr 0 2) (G gr 0 3)).1 + 1) ((cL (G gr 1) (G gr 0 1) ((G gr 0 0) - 1) (G gr 0 2) (G gr 0 3)).2) (G gr 0 4) (G gr 0 5) ((G gr 0 1) + 1) (iU (G gr 1) (((G gr 0 1) + 1) % 8) d) (iU (G gr 2) (((G gr 0 1) + 1) % 8) 0) (iU (G gr 3) (((G gr 0 1) + 1) % 8) 0)) H := hP
                have hD : va_D A (wF E q gr (wR E q G gr) jb jr lf jf rd vr (G gr 0 0) ((G gr 0 1) + 1) ((cL (G gr 1) (G gr 0 1) ((G gr 0 0) - 1) (G gr 0 2) (G gr 0 3)).1 + 1) ((cL (G gr 1) (G gr 0 1) ((G gr 0 0) - 1) (G gr 0 2) (G gr 0 3)).2) (G gr 0 4) (G gr 0 5) ((G gr 0 1) + 1) (iU (G gr 1) (((G gr 0 1) + 1) % 8) d) (iU (G gr 2) (((G gr 0 1) + 1) % 8) 0) (iU (G gr 3) (((G gr 0 1) + 1) % 8) 0)) := hD
                refine z_callM (w0 := wS2 E q jb jr lf jf rd vr) (ci := 0) (qk := 0) (As := [.int (iI ((G gr 0 1) + 1))]) (rest := []) hx hb hml hown hts hK hA hl.1 hP hD hS (c_X0_numberOf l E (gq q gr) (iU (G gr 1) (((G gr 0 1) + 1) % 8) d) (iU (G gr 2) (((G gr 0 1) + 1) % 8) 0) (iU (G gr 3) (((G gr 0 1) + 1) % 8) 0) (G gr 0 0) ((G gr 0 1) + 1) ((cL (G gr 1) (G gr 0 1) ((G gr 0 0) - 1) (G gr 0 2) (G gr 0 3)).1 + 1) ((cL (G gr 1) (G gr 0 1) ((G gr 0 0) - 1) (G gr 0 2) (G gr 0 3)).2) (G gr 0 4) (G gr 0 5) ((G gr 0 1) + 1) ((G gr 0 1) + 1)  (by first | omega | exact hx3 | exact hx3 _ (by omega) (by omega) | exact ⟨by omega, by omega⟩)) gX2_writeByName_X0_numberOf rfl ndX0_numberOf ⟨Nat.le_of_ble_eq_true rfl, Nat.le_of_ble_eq_true rfl⟩ rfl rfl rfl rfl rfl (Nat.le_of_ble_eq_true rfl) dX2_writeByName_77 ⟨Nat.le_of_ble_eq_true rfl, Nat.le_of_ble_eq_true rfl⟩ (fun x u H locs hpost hP hD hS => ?_)
                subst hpost
                have hP : va_P E.1 vwCl (wF E q gr (wR E q G gr) jb jr lf jf rd vr (G gr 0 0) ((G gr 0 1) + 1) ((cL (G gr 1) (G gr 0 1) ((G gr 0 0) - 1) (G gr 0 2) (G gr 0 3)).1 + 1) ((cL (G gr 1) (G gr 0 1) ((G gr 0 0) - 1) (G gr 0 2) (G gr 0 3)).2) (G gr 0 4) (G gr 0 5) ((G gr 0 1) + 1) (iU (G gr 1) (((G gr 0 1) + 1) % 8) d) (iU (G gr 2) (((G gr 0 1) + 1) % 8) 0) (iU (G gr 3) (((G gr 0 1) + 1) % 8) 0)) H := hP
                have hD : va_D A (wF E q gr (wR E q G gr) jb jr lf jf rd vr (G gr 0 0) ((G gr 0 1) + 1) ((cL (G gr 1) (G gr 0 1) ((G gr 0 0) - 1) (G gr 0 2) (G gr 0 3)).1 + 1) ((cL (G gr 1) (G gr 0 1) ((G gr 0 0) - 1) (G gr 0 2) (G gr 0 3)).2) (G gr 0 4) (G gr 0 5) ((G gr 0 1) + 1) (iU (G gr 1) (((G gr 0 1) + 1) % 8) d) (iU (G gr 2) (((G gr 0 1) + 1) % 8) 0) (iU (G gr 3) (((G gr 0 1) + 1) % 8) 0)) := hD
                have hP : va_P E.1 vwCl (wSt E q jb jr lf jf rd vr (gU G gr (xMk (G gr) d 0))) H := zP_perm hP (wF_perm (g := gr) (by omega))
                have hD : va_D A (wSt E q jb jr lf jf rd vr (gU G gr (xMk (G gr) d 0))) := zD_perm hD (wF_perm (g := gr) (by omega))
                have eqc_G : (if 0 ≤ gr ∧ gr ≤ 5 ∧ -7 ≤ n ∧ n ≤ 1 ∧ 0 ≤ d ∧ d ≤ 9999 then (if (n = 1 ∧ ¬ (¬ jr = 0 ∧ ¬ G gr 0 6 = 0)) then gU G gr (xMk (G gr) d (if jr = 0 then 0 else jb)) else if thP (G gr 0 1) (G gr 0 2) (G gr 1) (sOf (G gr 0 1) (G gr 0 5) (G gr 0 6) n jr) then gU G gr (xDa (G gr) (sOf (G gr 0 1) (G gr 0 5) (G gr 0 6) n jr) d) else G) else G) = (gU G gr (xMk (G gr) d 0)) := by (repeat (first | with_reducible rfl | rw [if_pos (by omega)] | rw [if_neg (by omega)]))
                have hP : va_P E.1 vwCl (wSt E q jb jr lf jf rd vr (if 0 ≤ gr ∧ gr ≤ 5 ∧ -7 ≤ n ∧ n ≤ 1 ∧ 0 ≤ d ∧ d ≤ 9999 then (if (n = 1 ∧ ¬ (¬ jr = 0 ∧ ¬ G gr 0 6 = 0)) then gU G gr (xMk (G gr) d (if jr = 0 then 0 else jb)) else if thP (G gr 0 1) (G gr 0 2) (G gr 1) (sOf (G gr 0 1) (G gr 0 5) (G gr 0 6) n jr) then gU G gr (xDa (G gr) (sOf (G gr 0 1) (G gr 0 5) (G gr 0 6) n jr) d) else G) else G)) H := by rw [eqc_G]; exact hP
                have hD : va_D A (wSt E q jb jr lf jf rd vr (if 0 ≤ gr ∧ gr ≤ 5 ∧ -7 ≤ n ∧ n ≤ 1 ∧ 0 ≤ d ∧ d ≤ 9999 then (if (n = 1 ∧ ¬ (¬ jr = 0 ∧ ¬ G gr 0 6 = 0)) then gU G gr (xMk (G gr) d (if jr = 0 then 0 else jb)) else if thP (G gr 0 1) (G gr 0 2) (G gr 1) (sOf (G gr 0 1) (G gr 0 5) (G gr 0 6) n jr) then gU G gr (xDa (G gr) (sOf (G gr 0 1) (G gr 0 5) (G gr 0 6) n jr) d) else G) else G)) := by rw [eqc_G]; exact hD
                exact z_iret hx hb hr hlocks hK hS () (by (repeat (first | with_reducible rfl | rw [if_pos (by omega)] | rw [if_neg (by omega)]))) hP hD dX2_writeByName_80
              · refine lv_aload_n hx hb dX2_writeByName_66 rfl (lv_at hl 1 rfl) ?_
                refine va_get (D := E.1) (cl := vwCl) (ci := 2) (v := .int (iI jb)) (C := RX2) (T := TX2) (N := 7) hx hb hts hinX2 hown hK hP 0 rfl rfl 1 (by decide) hf_17 (fun _ h => h) rfl dX2_writeByName_67 ?_
                refine lv_goto (tgt := 74) hx hb dX2_writeByName_70 (by decide) ?_
                refine z_callM (w0 := wS2 E q jb jr lf jf rd vr) (ci := 0) (qk := 0) (As := [.int (iI d), .int (iI jb)]) (rest := [.ref (gq q gr 0)]) hx hb hml hown hts hK hA hl.1 hP hD hS (c_X0_make l E (gq q gr) (G gr 1) (G gr 2) (G gr 3) (G gr 0 0) (G gr 0 1) (G gr 0 2) (G gr 0 3) (G gr 0 4) (G gr 0 5) (G gr 0 6) d jb  (by first | omega | exact hx3 | exact hx3 _ (by omega) (by omega) | exact ⟨by omega, by omega⟩) (by first | omega | exact hx3 | exact hx3 _ (by omega) (by omega) | exact ⟨by omega, by omega⟩) (by first | omega | exact hx3 | exact hx3 _ (by omega) (by omega) | exact ⟨by omega, by omega⟩) (by first | omega | exact hx3 | exact hx3 _ (by omega) (by omega) | exact ⟨by omega, by omega⟩)) gX2_writeByName_X0_make rfl ndX0_make ⟨Nat.le_of_ble_eq_true rfl, Nat.le_of_ble_eq_true rfl⟩ rfl rfl rfl rfl rfl (Nat.le_of_ble_eq_true rfl) dX2_writeByName_74 ⟨Nat.le_of_ble_eq_true rfl, Nat.le_of_ble_eq_true rfl⟩ (fun x u H locs hpost hP hD hS => ?_)
                subst hpost
                have hP : va_P E.1 vwCl (wF E q gr (wR E q G gr) jb jr lf jf rd vr (G gr 0 0) ((G gr 0 1) + 1) ((cL (G gr 1) (G gr 0 1) ((G gr 0 0) - 1) (G gr 0 2) (G gr 0 3)).1 + 1) ((cL (G gr 1) (G gr 0 1) ((G gr 0 0) - 1) (G gr 0 2) (G gr 0 3)).2) (G gr 0 4) (G gr 0 5) ((G gr 0 1) + 1) (iU (G gr 1) (((G gr 0 1) + 1) % 8) d) (iU (G gr 2) (((G gr 0 1) + 1) % 8) 0) (iU (G gr 3) (((G gr 0 1) + 1) % 8) jb)) H := hP
                have hD : va_D A (wF E q gr (wR E q G gr) jb jr lf jf rd vr (G gr 0 0) ((G gr 0 1) + 1) ((cL (G gr 1) (G gr 0 1) ((G gr 0 0) - 1) (G gr 0 2) (G gr 0 3)).1 + 1) ((cL (G gr 1) (G gr 0 1) ((G gr 0 0) - 1) (G gr 0 2) (G gr 0 3)).2) (G gr 0 4) (G gr 0 5) ((G gr 0 1) + 1) (iU (G gr 1) (((G gr 0 1) + 1) % 8) d) (iU (G gr 2) (((G gr 0 1) + 1) % 8) 0) (iU (G gr 3) (((G gr 0 1) + 1) % 8) jb)) := hD
                refine z_callM (w0 := wS2 E q jb jr lf jf rd vr) (ci := 0) (qk := 0) (As := [.int (iI ((G gr 0 1) + 1))]) (rest := []) hx hb hml hown hts hK hA hl.1 hP hD hS (c_X0_numberOf l E (gq q gr) (iU (G gr 1) (((G gr 0 1) + 1) % 8) d) (iU (G gr 2) (((G gr 0 1) + 1) % 8) 0) (iU (G gr 3) (((G gr 0 1) + 1) % 8) jb) (G gr 0 0) ((G gr 0 1) + 1) ((cL (G gr 1) (G gr 0 1) ((G gr 0 0) - 1) (G gr 0 2) (G gr 0 3)).1 + 1) ((cL (G gr 1) (G gr 0 1) ((G gr 0 0) - 1) (G gr 0 2) (G gr 0 3)).2) (G gr 0 4) (G gr 0 5) ((G gr 0 1) + 1) ((G gr 0 1) + 1)  (by first | omega | exact hx3 | exact hx3 _ (by omega) (by omega) | exact ⟨by omega, by omega⟩)) gX2_writeByName_X0_numberOf rfl ndX0_numberOf ⟨Nat.le_of_ble_eq_true rfl, Nat.le_of_ble_eq_true rfl⟩ rfl rfl rfl rfl rfl (Nat.le_of_ble_eq_true rfl) dX2_writeByName_77 ⟨Nat.le_of_ble_eq_true rfl, Nat.le_of_ble_eq_true rfl⟩ (fun x u H locs hpost hP hD hS => ?_)
                subst hpost
                have hP : va_P E.1 vwCl (wF E q gr (wR E q G gr) jb jr lf jf rd vr (G gr 0 0) ((G gr 0 1) + 1) ((cL (G gr 1) (G gr 0 1) ((G gr 0 0) - 1) (G gr 0 2) (G gr 0 3)).1 + 1) ((cL (G gr 1) (G gr 0 1) ((G gr 0 0) - 1) (G gr 0 2) (G gr 0 3)).2) (G gr 0 4) (G gr 0 5) ((G gr 0 1) + 1) (iU (G gr 1) (((G gr 0 1) + 1) % 8) d) (iU (G gr 2) (((G gr 0 1) + 1) % 8) 0) (iU (G gr 3) (((G gr 0 1) + 1) % 8) jb)) H := hP
                have hD : va_D A (wF E q gr (wR E q G gr) jb jr lf jf rd vr (G gr 0 0) ((G gr 0 1) + 1) ((cL (G gr 1) (G gr 0 1) ((G gr 0 0) - 1) (G gr 0 2) (G gr 0 3)).1 + 1) ((cL (G gr 1) (G gr 0 1) ((G gr 0 0) - 1) (G gr 0 2) (G gr 0 3)).2) (G gr 0 4) (G gr 0 5) ((G gr 0 1) + 1) (iU (G gr 1) (((G gr 0 1) + 1) % 8) d) (iU (G gr 2) (((G gr 0 1) + 1) % 8) 0) (iU (G gr 3) (((G gr 0 1) + 1) % 8) jb)) := hD
                have hP : va_P E.1 vwCl (wSt E q jb jr lf jf rd vr (gU G gr (xMk (G gr) d jb))) H := zP_perm hP (wF_perm (g := gr) (by omega))
                have hD : va_D A (wSt E q jb jr lf jf rd vr (gU G gr (xMk (G gr) d jb))) := zD_perm hD (wF_perm (g := gr) (by omega))
                have eqc_G : (if 0 ≤ gr ∧ gr ≤ 5 ∧ -7 ≤ n ∧ n ≤ 1 ∧ 0 ≤ d ∧ d ≤ 9999 then (if (n = 1 ∧ ¬ (¬ jr = 0 ∧ ¬ G gr 0 6 = 0)) then gU G gr (xMk (G gr) d (if jr = 0 then 0 else jb)) else if thP (G gr 0 1) (G gr 0 2) (G gr 1) (sOf (G gr 0 1) (G gr 0 5) (G gr 0 6) n jr) then gU G gr (xDa (G gr) (sOf (G gr 0 1) (G gr 0 5) (G gr 0 6) n jr) d) else G) else G) = (gU G gr (xMk (G gr) d jb)) := by (repeat (first | with_reducible rfl | rw [if_pos (by omega)] | rw [if_neg (by omega)]))
                have hP : va_P E.1 vwCl (wSt E q jb jr lf jf rd vr (if 0 ≤ gr ∧ gr ≤ 5 ∧ -7 ≤ n ∧ n ≤ 1 ∧ 0 ≤ d ∧ d ≤ 9999 then (if (n = 1 ∧ ¬ (¬ jr = 0 ∧ ¬ G gr 0 6 = 0)) then gU G gr (xMk (G gr) d (if jr = 0 then 0 else jb)) else if thP (G gr 0 1) (G gr 0 2) (G gr 1) (sOf (G gr 0 1) (G gr 0 5) (G gr 0 6) n jr) then gU G gr (xDa (G gr) (sOf (G gr 0 1) (G gr 0 5) (G gr 0 6) n jr) d) else G) else G)) H := by rw [eqc_G]; exact hP
                have hD : va_D A (wSt E q jb jr lf jf rd vr (if 0 ≤ gr ∧ gr ≤ 5 ∧ -7 ≤ n ∧ n ≤ 1 ∧ 0 ≤ d ∧ d ≤ 9999 then (if (n = 1 ∧ ¬ (¬ jr = 0 ∧ ¬ G gr 0 6 = 0)) then gU G gr (xMk (G gr) d (if jr = 0 then 0 else jb)) else if thP (G gr 0 1) (G gr 0 2) (G gr 1) (sOf (G gr 0 1) (G gr 0 5) (G gr 0 6) n jr) then gU G gr (xDa (G gr) (sOf (G gr 0 1) (G gr 0 5) (G gr 0 6) n jr) d) else G) else G)) := by rw [eqc_G]; exact hD
                exact z_iret hx hb hr hlocks hK hS () (by (repeat (first | with_reducible rfl | rw [if_pos (by omega)] | rw [if_neg (by omega)]))) hP hD dX2_writeByName_80
        · refine lv_bipush (v := iI (-2)) hx hb dX2_writeByName_29 (by decide) ?_
          have eqc_G : (if 0 ≤ gr ∧ gr ≤ 5 ∧ -7 ≤ n ∧ n ≤ 1 ∧ 0 ≤ d ∧ d ≤ 9999 then (if (n = 1 ∧ ¬ (¬ jr = 0 ∧ ¬ G gr 0 6 = 0)) then gU G gr (xMk (G gr) d (if jr = 0 then 0 else jb)) else if thP (G gr 0 1) (G gr 0 2) (G gr 1) (sOf (G gr 0 1) (G gr 0 5) (G gr 0 6) n jr) then gU G gr (xDa (G gr) (sOf (G gr 0 1) (G gr 0 5) (G gr 0 6) n jr) d) else G) else G) = G := by (repeat (first | with_reducible rfl | rw [if_pos (by omega)] | rw [if_neg (by omega)]))
          have hP : va_P E.1 vwCl (wSt E q jb jr lf jf rd vr (if 0 ≤ gr ∧ gr ≤ 5 ∧ -7 ≤ n ∧ n ≤ 1 ∧ 0 ≤ d ∧ d ≤ 9999 then (if (n = 1 ∧ ¬ (¬ jr = 0 ∧ ¬ G gr 0 6 = 0)) then gU G gr (xMk (G gr) d (if jr = 0 then 0 else jb)) else if thP (G gr 0 1) (G gr 0 2) (G gr 1) (sOf (G gr 0 1) (G gr 0 5) (G gr 0 6) n jr) then gU G gr (xDa (G gr) (sOf (G gr 0 1) (G gr 0 5) (G gr 0 6) n jr) d) else G) else G)) H := by rw [eqc_G]; exact hP
          have hD : va_D A (wSt E q jb jr lf jf rd vr (if 0 ≤ gr ∧ gr ≤ 5 ∧ -7 ≤ n ∧ n ≤ 1 ∧ 0 ≤ d ∧ d ≤ 9999 then (if (n = 1 ∧ ¬ (¬ jr = 0 ∧ ¬ G gr 0 6 = 0)) then gU G gr (xMk (G gr) d (if jr = 0 then 0 else jb)) else if thP (G gr 0 1) (G gr 0 2) (G gr 1) (sOf (G gr 0 1) (G gr 0 5) (G gr 0 6) n jr) then gU G gr (xDa (G gr) (sOf (G gr 0 1) (G gr 0 5) (G gr 0 6) n jr) d) else G) else G)) := by rw [eqc_G]; exact hD
          exact z_iret hx hb hr hlocks hK hS () (by (repeat (first | with_reducible rfl | rw [if_pos (by omega)] | rw [if_neg (by omega)]))) hP hD dX2_writeByName_31
  · refine lv_iconst (v := iI (-1)) hx hb dX2_writeByName_8 (by decide) ?_
    have eqc_G : (if 0 ≤ gr ∧ gr ≤ 5 ∧ -7 ≤ n ∧ n ≤ 1 ∧ 0 ≤ d ∧ d ≤ 9999 then (if (n = 1 ∧ ¬ (¬ jr = 0 ∧ ¬ G gr 0 6 = 0)) then gU G gr (xMk (G gr) d (if jr = 0 then 0 else jb)) else if thP (G gr 0 1) (G gr 0 2) (G gr 1) (sOf (G gr 0 1) (G gr 0 5) (G gr 0 6) n jr) then gU G gr (xDa (G gr) (sOf (G gr 0 1) (G gr 0 5) (G gr 0 6) n jr) d) else G) else G) = G := by (repeat (first | with_reducible rfl | rw [if_pos (by omega)] | rw [if_neg (by omega)]))
    have hP : va_P E.1 vwCl (wSt E q jb jr lf jf rd vr (if 0 ≤ gr ∧ gr ≤ 5 ∧ -7 ≤ n ∧ n ≤ 1 ∧ 0 ≤ d ∧ d ≤ 9999 then (if (n = 1 ∧ ¬ (¬ jr = 0 ∧ ¬ G gr 0 6 = 0)) then gU G gr (xMk (G gr) d (if jr = 0 then 0 else jb)) else if thP (G gr 0 1) (G gr 0 2) (G gr 1) (sOf (G gr 0 1) (G gr 0 5) (G gr 0 6) n jr) then gU G gr (xDa (G gr) (sOf (G gr 0 1) (G gr 0 5) (G gr 0 6) n jr) d) else G) else G)) H := by rw [eqc_G]; exact hP
    have hD : va_D A (wSt E q jb jr lf jf rd vr (if 0 ≤ gr ∧ gr ≤ 5 ∧ -7 ≤ n ∧ n ≤ 1 ∧ 0 ≤ d ∧ d ≤ 9999 then (if (n = 1 ∧ ¬ (¬ jr = 0 ∧ ¬ G gr 0 6 = 0)) then gU G gr (xMk (G gr) d (if jr = 0 then 0 else jb)) else if thP (G gr 0 1) (G gr 0 2) (G gr 1) (sOf (G gr 0 1) (G gr 0 5) (G gr 0 6) n jr) then gU G gr (xDa (G gr) (sOf (G gr 0 1) (G gr 0 5) (G gr 0 6) n jr) d) else G) else G)) := by rw [eqc_G]; exact hD
    exact z_iret hx hb hr hlocks hK hS () (by (repeat (first | with_reducible rfl | rw [if_pos (by omega)] | rw [if_neg (by omega)]))) hP hD dX2_writeByName_9

theorem ndX2_readByName : yX2_readByName.cls = RX2 ∧ yX2_readByName.cls ≠ "java/lang/invoke/MethodHandle" ∧ yX2_readByName.cls ≠ "java/lang/invoke/VarHandle" ∧ (parseMethodDescriptor yX2_readByName.desc).map (fun d => d.parameters.length) = some 2 := by decide +kernel
set_option maxRecDepth 100000 in
set_option maxHeartbeats 1000000 in
theorem c_X2_readByName (l : Launch) (E : zE) (q : Nat → Nat) (jb jr lf jf rd vr : Int) (G : Int → zGr) (gr : Int) (n : Int) (h0 : rg gr) (h1 : rg n) (h2 : SI G) (h3 : jr = 0 ∨ jr = 1) : zF l E yX2_readByName wsX2_readByName 2 42 [.ref (q 0), .int (iI gr), .int (iI n)] (wSt E q jb jr lf jf rd vr G) (if ¬ (0 ≤ gr ∧ gr ≤ 5) then -1 else if ¬ (-7 ≤ n ∧ n ≤ 1) then -2 else if thP (G gr 0 1) (G gr 0 2) (G gr 1) (sOf (G gr 0 1) (G gr 0 5) (G gr 0 6) n jr) then G gr 1 ((sOf (G gr 0 1) (G gr 0 5) (G gr 0 6) n jr) % 8) else -6) (wSt E q jb jr lf jf (if 0 ≤ gr ∧ gr ≤ 5 ∧ -7 ≤ n ∧ n ≤ 1 then rd + 1 else rd) (if 0 ≤ gr ∧ gr ≤ 5 ∧ -7 ≤ n ∧ n ≤ 1 ∧ ¬ thP (G gr 0 1) (G gr 0 2) (G gr 1) (sOf (G gr 0 1) (G gr 0 5) (G gr 0 6) n jr) then vr + 1 else vr) (if 0 ≤ gr ∧ gr ≤ 5 ∧ -7 ≤ n ∧ n ≤ 1 ∧ thP (G gr 0 1) (G gr 0 2) (G gr 1) (sOf (G gr 0 1) (G gr 0 5) (G gr 0 6) n jr) then gU G gr (xRe (G gr) (sOf (G gr 0 1) (G gr 0 5) (G gr 0 6) n jr)) else G)) := by
  have hsi := h2
  refine zC_of (cc := cX2_readByName) (maxL := 6) (by decide) rfl (Nat.le_of_ble_eq_true rfl) ?_
  intro p e s m below meth c ls A hx hb hr hts hown hlocks hml hK hA hS hP hD hl
  have hown : s.vm.findClass RX2 = some m.cls := hown
  have hl : lv_has ls 6 [(0, .ref (q 0)), (1, .int (iI gr)), (2, .int (iI n))] := hl
  have hinX2 : ∀ v ∈ u_ws RX2 TX2 7, v ∈ wsX2_readByName := by decide +kernel
  have hinX0 : ∀ v ∈ u_ws RX0 TX0 10, v ∈ wsX2_readByName := by decide +kernel
  have hf_11 := hts (.fieldLink RX2 11 "GenerationNames$State" "groups" "[LGenerationNames$Group;") (by decide +kernel)
  have hf_21 := hts (.fieldLink RX2 21 "GenerationNames$State" "jobRuns" "Z") (by decide +kernel)
  have hf_31 := hts (.fieldLink RX2 31 "GenerationNames$State" "reads" "I") (by decide +kernel)
  have hf_82 := hts (.fieldLink RX2 82 "GenerationNames$Group" "reads" "[I") (by decide +kernel)
  have hf_78 := hts (.fieldLink RX2 78 "GenerationNames$Group" "data" "[I") (by decide +kernel)
  have hf_34 := hts (.fieldLink RX2 34 "GenerationNames$State" "vainReads" "I") (by decide +kernel)
  refine lv_aload_n hx hb dX2_readByName_0 rfl (lv_at hl 0 rfl) ?_
  refine lv_iload_n hx hb dX2_readByName_1 rfl (lv_at hl 1 rfl) ?_
  refine z_callV0 (ci := 2) (qk := 0) (As := [.int (iI gr)]) (rest := []) hx hb hml hown hts hK hA hl.1 hP hD hS (c_X2_isGroup l E q jb jr lf jf rd vr G gr  (by first | omega | exact hx3 | exact hx3 _ (by omega) (by omega) | exact ⟨by omega, by omega⟩)) gX2_readByName_X2_isGroup rfl ndX2_isGroup ⟨Nat.le_of_ble_eq_true rfl, Nat.le_of_ble_eq_true rfl⟩ rfl rfl rfl rfl rfl (Nat.le_of_ble_eq_true rfl) dX2_readByName_2 ⟨Nat.le_of_ble_eq_true rfl, Nat.le_of_ble_eq_true rfl⟩ (fun x u H locs hpost hP hD hS => ?_)
  subst hpost
  have hP : va_P E.1 vwCl (wSt E q jb jr lf jf rd vr G) H := hP
  have hD : va_D A (wSt E q jb jr lf jf rd vr G) := hD
  refine z_ifb_ne (tgt := 10) hx hb dX2_readByName_5 (by decide) (fun c_5 => ?_) (fun c_5 => ?_)
  · refine lv_aload_n hx hb dX2_readByName_10 rfl (lv_at hl 0 rfl) ?_
    refine lv_iload_n hx hb dX2_readByName_11 rfl (lv_at hl 2 rfl) ?_
    refine z_callV0 (ci := 2) (qk := 0) (As := [.int (iI n)]) (rest := []) hx hb hml hown hts hK hA hl.1 hP hD hS (c_X2_isName l E q jb jr lf jf rd vr G n  (by first | omega | exact hx3 | exact hx3 _ (by omega) (by omega) | exact ⟨by omega, by omega⟩)) gX2_readByName_X2_isName rfl ndX2_isName ⟨Nat.le_of_ble_eq_true rfl, Nat.le_of_ble_eq_true rfl⟩ rfl rfl rfl rfl rfl (Nat.le_of_ble_eq_true rfl) dX2_readByName_12 ⟨Nat.le_of_ble_eq_true rfl, Nat.le_of_ble_eq_true rfl⟩ (fun x u H locs hpost hP hD hS => ?_)
    subst hpost
    have hP : va_P E.1 vwCl (wSt E q jb jr lf jf rd vr G) H := hP
    have hD : va_D A (wSt E q jb jr lf jf rd vr G) := hD
    refine z_ifb_ne (tgt := 21) hx hb dX2_readByName_15 (by decide) (fun c_15 => ?_) (fun c_15 => ?_)
    · refine lv_aload_n hx hb dX2_readByName_21 rfl (lv_at hl 0 rfl) ?_
      refine va_get (D := E.1) (cl := vwCl) (ci := 2) (v := .ref (q 1)) (C := RX2) (T := TX2) (N := 7) hx hb hts hinX2 hown hK hP 0 rfl rfl 0 (by decide) hf_11 (fun _ h => h) rfl dX2_readByName_22 ?_
      refine lv_iload_n hx hb dX2_readByName_25 rfl (lv_at hl 1 rfl) ?_
      refine z_aald (D := E.1) (cl := vwCl) (tys := zT E) (f := fun j : Nat => q (2 + 4 * j)) hx hb hK hP 1 3 rfl rfl (by omega) (by omega) (by omega) dX2_readByName_26 ?_
      refine W.eq (g2 := F0 m 27 ls [.ref (gq q gr 0)]) rfl ?_
      have hP := zP_perm hP (wS_perm (g := gr) (by omega))
      have hD := zD_perm hD (wS_perm (g := gr) (by omega))
      obtain ⟨hx1, hx2, hx3, hx4, hx5, hx6⟩ := hsi gr (by omega) (by omega)
      have hso := sOf_rg (ne := G gr 0 1) (nj := G gr 0 5) (mj := G gr 0 6) (n := n) (b := jr) (by omega) (by omega) (by omega) (by omega)
      have hP : va_P E.1 vwCl (wF E q gr (wR E q G gr) jb jr lf jf rd vr (G gr 0 0) (G gr 0 1) (G gr 0 2) (G gr 0 3) (G gr 0 4) (G gr 0 5) (G gr 0 6) (G gr 1) (G gr 2) (G gr 3)) H := hP
      have hD : va_D A (wF E q gr (wR E q G gr) jb jr lf jf rd vr (G gr 0 0) (G gr 0 1) (G gr 0 2) (G gr 0 3) (G gr 0 4) (G gr 0 5) (G gr 0 6) (G gr 1) (G gr 2) (G gr 3)) := hD
      refine lv_astore_n (lv' := [(3, .ref (gq q gr 0)), (0, .ref (q 0)), (1, .int (iI gr)), (2, .int (iI n))]) hx hb dX2_readByName_27 rfl hl (by decide) rfl (fun ls hl => ?_)
      refine lv_aload_n hx hb dX2_readByName_28 rfl (lv_at hl 0 rfl) ?_
      refine lv_iload_n hx hb dX2_readByName_29 rfl (lv_at hl 3 rfl) ?_
      refine lv_aload_n hx hb dX2_readByName_30 rfl (lv_at hl 1 rfl) ?_
      refine va_get (D := E.1) (cl := vwCl) (ci := 2) (v := .int (iI jr)) (C := RX2) (T := TX2) (N := 7) hx hb hts hinX2 hown hK hP 0 rfl rfl 2 (by decide) hf_21 (fun _ h => h) rfl dX2_readByName_31 ?_
      refine z_callM (w0 := wS2 E q jb jr lf jf rd vr) (ci := 0) (qk := 0) (As := [.int (iI n), .int (iI jr)]) (rest := []) hx hb hml hown hts hK hA hl.1 hP hD hS (c_X0_serialOf l E (gq q gr) (G gr 1) (G gr 2) (G gr 3) (G gr 0 0) (G gr 0 1) (G gr 0 2) (G gr 0 3) (G gr 0 4) (G gr 0 5) (G gr 0 6) n jr  (by first | omega | exact hx3 | exact hx3 _ (by omega) (by omega) | exact ⟨by omega, by omega⟩) (by first | omega | exact hx3 | exact hx3 _ (by omega) (by omega) | exact ⟨by omega, by omega⟩)) gX2_readByName_X0_serialOf rfl ndX0_serialOf ⟨Nat.le_of_ble_eq_true rfl, Nat.le_of_ble_eq_true rfl⟩ rfl rfl rfl rfl rfl (Nat.le_of_ble_eq_true rfl) dX2_readByName_34 ⟨Nat.le_of_ble_eq_true rfl, Nat.le_of_ble_eq_true rfl⟩ (fun x u H locs hpost hP hD hS => ?_)
      subst hpost
      have hP : va_P E.1 vwCl (wF E q gr (wR E q G gr) jb jr lf jf rd vr (G gr 0 0) (G gr 0 1) (G gr 0 2) (G gr 0 3) (G gr 0 4) (G gr 0 5) (G gr 0 6) (G gr 1) (G gr 2) (G gr 3)) H := hP
      have hD : va_D A (wF E q gr (wR E q G gr) jb jr lf jf rd vr (G gr 0 0) (G gr 0 1) (G gr 0 2) (G gr 0 3) (G gr 0 4) (G gr 0 5) (G gr 0 6) (G gr 1) (G gr 2) (G gr 3)) := hD
      refine lv_istore (lv' := [(4, .int (iI (sOf (G gr 0 1) (G gr 0 5) (G gr 0 6) n jr))), (3, .ref (gq q gr 0)), (0, .ref (q 0)), (1, .int (iI gr)), (2, .int (iI n))]) hx hb dX2_readByName_37 hl (by decide) rfl (fun ls hl => ?_)
      refine lv_aload_n hx hb dX2_readByName_39 rfl (lv_at hl 2 rfl) ?_
      refine lv_dup hx hb dX2_readByName_40 rfl ?_
      refine va_get (D := E.1) (cl := vwCl) (ci := 2) (v := .int (iI rd)) (C := RX2) (T := TX2) (N := 7) hx hb hts hinX2 hown hK hP 0 rfl rfl 5 (by decide) hf_31 (fun _ h => h) rfl dX2_readByName_41 ?_
      refine lv_iconst (v := iI 1) hx hb dX2_readByName_44 (by decide) ?_
      refine z_iadd hx hb dX2_readByName_45 ?_
      refine va_put (D := E.1) (cl := vwCl) (ci := 2) (v := .int (iI (rd + 1))) (ty := .int) (C := RX2) (T := TX2) (N := 7) hx hb hts hinX2 tyX2 tyX2_ok nmX2 hown hK hP hD hS 0 rfl rfl 5 (by decide) hf_31 (fun _ h => h) rfl (by decide +kernel) (rfl) (rfl) (Nat.le_of_ble_eq_true rfl) dX2_readByName_46 (fun H locs hP hD hS => ?_)
      have hP : va_P E.1 vwCl (wF E q gr (wR E q G gr) jb jr lf jf (rd + 1) vr (G gr 0 0) (G gr 0 1) (G gr 0 2) (G gr 0 3) (G gr 0 4) (G gr 0 5) (G gr 0 6) (G gr 1) (G gr 2) (G gr 3)) H := hP
      have hD : va_D A (wF E q gr (wR E q G gr) jb jr lf jf (rd + 1) vr (G gr 0 0) (G gr 0 1) (G gr 0 2) (G gr 0 3) (G gr 0 4) (G gr 0 5) (G gr 0 6) (G gr 1) (G gr 2) (G gr 3)) := hD
      refine lv_aload_n hx hb dX2_readByName_49 rfl (lv_at hl 1 rfl) ?_
      refine lv_iload hx hb dX2_readByName_50 (lv_at hl 0 rfl) ?_
      refine z_callM (w0 := wS2 E q jb jr lf jf (rd + 1) vr) (ci := 0) (qk := 0) (As := [.int (iI (sOf (G gr 0 1) (G gr 0 5) (G gr 0 6) n jr))]) (rest := []) hx hb hml hown hts hK hA hl.1 hP hD hS (c_X0_isThere l E (gq q gr) (G gr 1) (G gr 2) (G gr 3) (G gr 0 0) (G gr 0 1) (G gr 0 2) (G gr 0 3) (G gr 0 4) (G gr 0 5) (G gr 0 6) (sOf (G gr 0 1) (G gr 0 5) (G gr 0 6) n jr)  (by first | omega | exact hx3 | exact hx3 _ (by omega) (by omega) | exact ⟨by omega, by omega⟩) (by first | omega | exact hx3 | exact hx3 _ (by omega) (by omega) | exact ⟨by omega, by omega⟩) (by first | omega | exact hx3 | exact hx3 _ (by omega) (by omega) | exact ⟨by omega, by omega⟩) (by first | omega | exact hx3 | exact hx3 _ (by omega) (by omega) | exact ⟨by omega, by omega⟩)) gX2_readByName_X0_isThere rfl ndX0_isThere ⟨Nat.le_of_ble_eq_true rfl, Nat.le_of_ble_eq_true rfl⟩ rfl rfl rfl rfl rfl (Nat.le_of_ble_eq_true rfl) dX2_readByName_52 ⟨Nat.le_of_ble_eq_true rfl, Nat.le_of_ble_eq_true rfl⟩ (fun x u H locs hpost hP hD hS => ?_)
      subst hpost
      have hP : va_P E.1 vwCl (wF E q gr (wR E q G gr) jb jr lf jf (rd + 1) vr (G gr 0 0) (G gr 0 1) (G gr 0 2) (G gr 0 3) (G gr 0 4) (G gr 0 5) (G gr 0 6) (G gr 1) (G gr 2) (G gr 3)) H := hP
      have hD : va_D A (wF E q gr (wR E q G gr) jb jr lf jf (rd + 1) vr (G gr 0 0) (G gr 0 1) (G gr 0 2) (G gr 0 3) (G gr 0 4) (G gr 0 5) (G gr 0 6) (G gr 1) (G gr 2) (G gr 3)) := hD
      refine z_ifb_ne (tgt := 71) hx hb dX2_readByName_55 (by decide) (fun c_55 => ?_) (fun c_55 => ?_)
      · refine lv_iload hx hb dX2_readByName_71 (lv_at hl 0 rfl) ?_
        refine lv_bipush (v := iI 7) hx hb dX2_readByName_73 (by decide) ?_
        refine z_iand7 hx hb dX2_readByName_75 ?_
        refine lv_istore (lv' := [(5, .int (iI ((sOf (G gr 0 1) (G gr 0 5) (G gr 0 6) n jr) % 8))), (4, .int (iI (sOf (G gr 0 1) (G gr 0 5) (G gr 0 6) n jr))), (3, .ref (gq q gr 0)), (0, .ref (q 0)), (1, .int (iI gr)), (2, .int (iI n))]) hx hb dX2_readByName_76 hl (by decide) rfl (fun ls hl => ?_)
        refine lv_aload_n hx hb dX2_readByName_78 rfl (lv_at hl 2 rfl) ?_
        refine va_get (D := E.1) (cl := vwCl) (ci := 0) (v := .ref (gq q gr 2)) (C := RX0) (T := TX0) (N := 10) hx hb hts hinX0 hown hK hP 2 rfl rfl 8 (by decide) hf_82 (fun _ h => h) rfl dX2_readByName_79 ?_
        refine lv_iload hx hb dX2_readByName_82 (lv_at hl 0 rfl) ?_
        refine lv_dup2_11 hx hb dX2_readByName_84 rfl rfl ?_
        refine z_iald (D := E.1) (cl := vwCl) (tys := zT E) (f := (G gr 2)) hx hb hK hP 4 0 rfl rfl (by omega) (by omega) (by omega) dX2_readByName_85 ?_
        refine lv_iconst (v := iI 1) hx hb dX2_readByName_86 (by decide) ?_
        refine z_iadd hx hb dX2_readByName_87 ?_
        refine z_iast (D := E.1) (cl := vwCl) (tys := zT E) (f := (G gr 2)) hx hb hK hP hD hS 4 0 rfl rfl (by omega) (by omega) (by omega) dX2_readByName_88 (fun H locs hP hD hS => ?_)
        have hP : va_P E.1 vwCl (wF E q gr (wR E q G gr) jb jr lf jf (rd + 1) vr (G gr 0 0) (G gr 0 1) (G gr 0 2) (G gr 0 3) (G gr 0 4) (G gr 0 5) (G gr 0 6) (G gr 1) (iU (G gr 2) ((sOf (G gr 0 1) (G gr 0 5) (G gr 0 6) n jr) % 8) (((G gr 2) ((sOf (G gr 0 1) (G gr 0 5) (G gr 0 6) n jr) % 8)) + 1)) (G gr 3)) H := hP
        have hD : va_D A (wF E q gr (wR E q G gr) jb jr lf jf (rd + 1) vr (G gr 0 0) (G gr 0 1) (G gr 0 2) (G gr 0 3) (G gr 0 4) (G gr 0 5) (G gr 0 6) (G gr 1) (iU (G gr 2) ((sOf (G gr 0 1) (G gr 0 5) (G gr 0 6) n jr) % 8) (((G gr 2) ((sOf (G gr 0 1) (G gr 0 5) (G gr 0 6) n jr) % 8)) + 1)) (G gr 3)) := hD
        refine lv_aload_n hx hb dX2_readByName_89 rfl (lv_at hl 2 rfl) ?_
        refine va_get (D := E.1) (cl := vwCl) (ci := 0) (v := .ref (gq q gr 1)) (C := RX0) (T := TX0) (N := 10) hx hb hts hinX0 hown hK hP 2 rfl rfl 7 (by decide) hf_78 (fun _ h => h) rfl dX2_readByName_90 ?_
        refine lv_iload hx hb dX2_readByName_93 (lv_at hl 0 rfl) ?_
        refine z_iald (D := E.1) (cl := vwCl) (tys := zT E) (f := (G gr 1)) hx hb hK hP 3 0 rfl rfl (by omega) (by omega) (by omega) dX2_readByName_95 ?_
        have hP : va_P E.1 vwCl (wSt E q jb jr lf jf (rd + 1) vr (gU G gr (xRe (G gr) (sOf ((G gr) 0 1) ((G gr) 0 5) ((G gr) 0 6) n jr)))) H := zP_perm hP (wF_perm (g := gr) (by omega))
        have hD : va_D A (wSt E q jb jr lf jf (rd + 1) vr (gU G gr (xRe (G gr) (sOf ((G gr) 0 1) ((G gr) 0 5) ((G gr) 0 6) n jr)))) := zD_perm hD (wF_perm (g := gr) (by omega))
        have eqc_rd : (if 0 ≤ gr ∧ gr ≤ 5 ∧ -7 ≤ n ∧ n ≤ 1 then rd + 1 else rd) = (rd + 1) := by (repeat (first | with_reducible rfl | rw [if_pos (by omega)] | rw [if_neg (by omega)]))
        have eqc_vr : (if 0 ≤ gr ∧ gr ≤ 5 ∧ -7 ≤ n ∧ n ≤ 1 ∧ ¬ thP (G gr 0 1) (G gr 0 2) (G gr 1) (sOf (G gr 0 1) (G gr 0 5) (G gr 0 6) n jr) then vr + 1 else vr) = vr := by (repeat (first | with_reducible rfl | rw [if_pos (by omega)] | rw [if_neg (by omega)]))
        have eqc_G : (if 0 ≤ gr ∧ gr ≤ 5 ∧ -7 ≤ n ∧ n ≤ 1 ∧ thP (G gr 0 1) (G gr 0 2) (G gr 1) (sOf (G gr 0 1) (G gr 0 5) (G gr 0 6) n jr) then gU G gr (xRe (G gr) (sOf (G gr 0 1) (G gr 0 5) (G gr 0 6) n jr)) else G) = (gU G gr (xRe (G gr) (sOf ((G gr) 0 1) ((G gr) 0 5) ((G gr) 0 6) n jr))) := by (repeat (first | with_reducible rfl | rw [if_pos (by omega)] | rw [if_neg (by omega)]))
        have hP : va_P E.1 vwCl (wSt E q jb jr lf jf (if 0 ≤ gr ∧ gr ≤ 5 ∧ -7 ≤ n ∧ n ≤ 1 then rd + 1 else rd) (if 0 ≤ gr ∧ gr ≤ 5 ∧ -7 ≤ n ∧ n ≤ 1 ∧ ¬ thP (G gr 0 1) (G gr 0 2) (G gr 1) (sOf (G gr 0 1) (G gr 0 5) (G gr 0 6) n jr) then vr + 1 else vr) (if 0 ≤ gr ∧ gr ≤ 5 ∧ -7 ≤ n ∧ n ≤ 1 ∧ thP (G gr 0 1) (G gr 0 2) (G gr 1) (sOf (G gr 0 1) (G gr 0 5) (G gr 0 6) n jr) then gU G gr (xRe (G gr) (sOf (G gr 0 1) (G gr 0 5) (G gr 0 6) n jr)) else G)) H := by rw [eqc_rd, eqc_vr, eqc_G]; exact hP
        have hD : va_D A (wSt E q jb jr lf jf (if 0 ≤ gr ∧ gr ≤ 5 ∧ -7 ≤ n ∧ n ≤ 1 then rd + 1 else rd) (if 0 ≤ gr ∧ gr ≤ 5 ∧ -7 ≤ n ∧ n ≤ 1 ∧ ¬ thP (G gr 0 1) (G gr 0 2) (G gr 1) (sOf (G gr 0 1) (G gr 0 5) (G gr 0 6) n jr) then vr + 1 else vr) (if 0 ≤ gr ∧ gr ≤ 5 ∧ -7 ≤ n ∧ n ≤ 1 ∧ thP (G gr 0 1) (G gr 0 2) (G gr 1) (sOf (G gr 0 1) (G gr 0 5) (G gr 0 6) n jr) then gU G gr (xRe (G gr) (sOf (G gr 0 1) (G gr 0 5) (G gr 0 6) n jr)) else G)) := by rw [eqc_rd, eqc_vr, eqc_G]; exact hD
        exact z_iret hx hb hr hlocks hK hS () (by (repeat (first | with_reducible rfl | rw [if_pos (by omega)] | rw [if_neg (by omega)]))) hP hD dX2_readByName_96
      · refine lv_aload_n hx hb dX2_readByName_58 rfl (lv_at hl 2 rfl) ?_
        refine lv_dup hx hb dX2_readByName_59 rfl ?_
        refine va_get (D := E.1) (cl := vwCl) (ci := 2) (v := .int (iI vr)) (C := RX2) (T := TX2) (N := 7) hx hb hts hinX2 hown hK hP 0 rfl rfl 6 (by decide) hf_34 (fun _ h => h) rfl dX2_readByName_60 ?_
        refine lv_iconst (v := iI 1) hx hb dX2_readByName_63 (by decide) ?_
        refine z_iadd hx hb dX2_readByName_64 ?_
        refine va_put (D := E.1) (cl := vwCl) (ci := 2) (v := .int (iI (vr + 1))) (ty := .int) (C := RX2) (T := TX2) (N := 7) hx hb hts hinX2 tyX2 tyX2_ok nmX2 hown hK hP hD hS 0 rfl rfl 6 (by decide) hf_34 (fun _ h => h) rfl (by decide +kernel) (rfl) (rfl) (Nat.le_of_ble_eq_true rfl) dX2_readByName_65 (fun H locs hP hD hS => ?_)
        have hP : va_P E.1 vwCl (wF E q gr (wR E q G gr) jb jr lf jf (rd + 1) (vr + 1) (G gr 0 0) (G gr 0 1) (G gr 0 2) (G gr 0 3) (G gr 0 4) (G gr 0 5) (G gr 0 6) (G gr 1) (G gr 2) (G gr 3)) H := hP
        have hD : va_D A (wF E q gr (wR E q G gr) jb jr lf jf (rd + 1) (vr + 1) (G gr 0 0) (G gr 0 1) (G gr 0 2) (G gr 0 3) (G gr 0 4) (G gr 0 5) (G gr 0 6) (G gr 1) (G gr 2) (G gr 3)) := hD
        refine lv_bipush (v := iI (-6)) hx hb dX2_readByName_68 (by decide) ?_
        have hP : va_P E.1 vwCl (wSt E q jb jr lf jf (rd + 1) (vr + 1) G) H := zP_perm hP (wS_perm (g := gr) (by omega)).symm
        have hD : va_D A (wSt E q jb jr lf jf (rd + 1) (vr + 1) G) := zD_perm hD (wS_perm (g := gr) (by omega)).symm
        have eqc_rd : (if 0 ≤ gr ∧ gr ≤ 5 ∧ -7 ≤ n ∧ n ≤ 1 then rd + 1 else rd) = (rd + 1) := by (repeat (first | with_reducible rfl | rw [if_pos (by omega)] | rw [if_neg (by omega)]))
        have eqc_vr : (if 0 ≤ gr ∧ gr ≤ 5 ∧ -7 ≤ n ∧ n ≤ 1 ∧ ¬ thP (G gr 0 1) (G gr 0 2) (G gr 1) (sOf (G gr 0 1) (G gr 0 5) (G gr 0 6) n jr) then vr + 1 else vr) = (vr + 1) := by (repeat (first | with_reducible rfl | rw [if_pos (by omega)] | rw [if_neg (by omega)]))
        have eqc_G : (if 0 ≤ gr ∧ gr ≤ 5 ∧ -7 ≤ n ∧ n ≤ 1 ∧ thP (G gr 0 1) (G gr 0 2) (G gr 1) (sOf (G gr 0 1) (G gr 0 5) (G gr 0 6) n jr) then gU G gr (xRe (G gr) (sOf (G gr 0 1) (G gr 0 5) (G gr 0 6) n jr)) else G) = G := by (repeat (first | with_reducible rfl | rw [if_pos (by omega)] | rw [if_neg (by omega)]))
        have hP : va_P E.1 vwCl (wSt E q jb jr lf jf (if 0 ≤ gr ∧ gr ≤ 5 ∧ -7 ≤ n ∧ n ≤ 1 then rd + 1 else rd) (if 0 ≤ gr ∧ gr ≤ 5 ∧ -7 ≤ n ∧ n ≤ 1 ∧ ¬ thP (G gr 0 1) (G gr 0 2) (G gr 1) (sOf (G gr 0 1) (G gr 0 5) (G gr 0 6) n jr) then vr + 1 else vr) (if 0 ≤ gr ∧ gr ≤ 5 ∧ -7 ≤ n ∧ n ≤ 1 ∧ thP (G gr 0 1) (G gr 0 2) (G gr 1) (sOf (G gr 0 1) (G gr 0 5) (G gr 0 6) n jr) then gU G gr (xRe (G gr) (sOf (G gr 0 1) (G gr 0 5) (G gr 0 6) n jr)) else G)) H := by rw [eqc_rd, eqc_vr, eqc_G]; exact hP
        have hD : va_D A (wSt E q jb jr lf jf (if 0 ≤ gr ∧ gr ≤ 5 ∧ -7 ≤ n ∧ n ≤ 1 then rd + 1 else rd) (if 0 ≤ gr ∧ gr ≤ 5 ∧ -7 ≤ n ∧ n ≤ 1 ∧ ¬ thP (G gr 0 1) (G gr 0 2) (G gr 1) (sOf (G gr 0 1) (G gr 0 5) (G gr 0 6) n jr) then vr + 1 else vr) (if 0 ≤ gr ∧ gr ≤ 5 ∧ -7 ≤ n ∧ n ≤ 1 ∧ thP (G gr 0 1) (G gr 0 2) (G gr 1) (sOf (G gr 0 1) (G gr 0 5) (G gr 0 6) n jr) then gU G gr (xRe (G gr) (sOf (G gr 0 1) (G gr 0 5) (G gr 0 6) n jr)) else G)) := by rw [eqc_rd, eqc_vr, eqc_G]; exact hD
        exact z_iret hx hb hr hlocks hK hS () (by (repeat (first | with_reducible rfl | rw [if_pos (by omega)] | rw [if_neg (by omega)]))) hP hD dX2_readByName_70
    · refine lv_bipush (v := iI (-2)) hx hb dX2_readByName_18 (by decide) ?_
      have eqc_rd : (if 0 ≤ gr ∧ gr ≤ 5 ∧ -7 ≤ n ∧ n ≤ 1 then rd + 1 else rd) = rd := by (repeat (first | with_reducible rfl | rw [if_pos (by omega)] | rw [if_neg (by omega)]))
      have eqc_vr : (if 0 ≤ gr ∧ gr ≤ 5 ∧ -7 ≤ n ∧ n ≤ 1 ∧ ¬ thP (G gr 0 1) (G gr 0 2) (G gr 1) (sOf (G gr 0 1) (G gr 0 5) (G gr 0 6) n jr) then vr + 1 else vr) = vr := by (repeat (first | with_reducible rfl | rw [if_pos (by omega)] | rw [if_neg (by omega)]))
      have eqc_G : (if 0 ≤ gr ∧ gr ≤ 5 ∧ -7 ≤ n ∧ n ≤ 1 ∧ thP (G gr 0 1) (G gr 0 2) (G gr 1) (sOf (G gr 0 1) (G gr 0 5) (G gr 0 6) n jr) then gU G gr (xRe (G gr) (sOf (G gr 0 1) (G gr 0 5) (G gr 0 6) n jr)) else G) = G := by (repeat (first | with_reducible rfl | rw [if_pos (by omega)] | rw [if_neg (by omega)]))
      have hP : va_P E.1 vwCl (wSt E q jb jr lf jf (if 0 ≤ gr ∧ gr ≤ 5 ∧ -7 ≤ n ∧ n ≤ 1 then rd + 1 else rd) (if 0 ≤ gr ∧ gr ≤ 5 ∧ -7 ≤ n ∧ n ≤ 1 ∧ ¬ thP (G gr 0 1) (G gr 0 2) (G gr 1) (sOf (G gr 0 1) (G gr 0 5) (G gr 0 6) n jr) then vr + 1 else vr) (if 0 ≤ gr ∧ gr ≤ 5 ∧ -7 ≤ n ∧ n ≤ 1 ∧ thP (G gr 0 1) (G gr 0 2) (G gr 1) (sOf (G gr 0 1) (G gr 0 5) (G gr 0 6) n jr) then gU G gr (xRe (G gr) (sOf (G gr 0 1) (G gr 0 5) (G gr 0 6) n jr)) else G)) H := by rw [eqc_rd, eqc_vr, eqc_G]; exact hP
      have hD : va_D A (wSt E q jb jr lf jf (if 0 ≤ gr ∧ gr ≤ 5 ∧ -7 ≤ n ∧ n ≤ 1 then rd + 1 else rd) (if 0 ≤ gr ∧ gr ≤ 5 ∧ -7 ≤ n ∧ n ≤ 1 ∧ ¬ thP (G gr 0 1) (G gr 0 2) (G gr 1) (sOf (G gr 0 1) (G gr 0 5) (G gr 0 6) n jr) then vr + 1 else vr) (if 0 ≤ gr ∧ gr ≤ 5 ∧ -7 ≤ n ∧ n ≤ 1 ∧ thP (G gr 0 1) (G gr 0 2) (G gr 1) (sOf (G gr 0 1) (G gr 0 5) (G gr 0 6) n jr) then gU G gr (xRe (G gr) (sOf (G gr 0 1) (G gr 0 5) (G gr 0 6) n jr)) else G)) := by rw [eqc_rd, eqc_vr, eqc_G]; exact hD
      exact z_iret hx hb hr hlocks hK hS () (by (repeat (first | with_reducible rfl | rw [if_pos (by omega)] | rw [if_neg (by omega)]))) hP hD dX2_readByName_20
  · refine lv_iconst (v := iI (-1)) hx hb dX2_readByName_8 (by decide) ?_
    have eqc_rd : (if 0 ≤ gr ∧ gr ≤ 5 ∧ -7 ≤ n ∧ n ≤ 1 then rd + 1 else rd) = rd := by (repeat (first | with_reducible rfl | rw [if_pos (by omega)] | rw [if_neg (by omega)]))
    have eqc_vr : (if 0 ≤ gr ∧ gr ≤ 5 ∧ -7 ≤ n ∧ n ≤ 1 ∧ ¬ thP (G gr 0 1) (G gr 0 2) (G gr 1) (sOf (G gr 0 1) (G gr 0 5) (G gr 0 6) n jr) then vr + 1 else vr) = vr := by (repeat (first | with_reducible rfl | rw [if_pos (by omega)] | rw [if_neg (by omega)]))
    have eqc_G : (if 0 ≤ gr ∧ gr ≤ 5 ∧ -7 ≤ n ∧ n ≤ 1 ∧ thP (G gr 0 1) (G gr 0 2) (G gr 1) (sOf (G gr 0 1) (G gr 0 5) (G gr 0 6) n jr) then gU G gr (xRe (G gr) (sOf (G gr 0 1) (G gr 0 5) (G gr 0 6) n jr)) else G) = G := by (repeat (first | with_reducible rfl | rw [if_pos (by omega)] | rw [if_neg (by omega)]))
    have hP : va_P E.1 vwCl (wSt E q jb jr lf jf (if 0 ≤ gr ∧ gr ≤ 5 ∧ -7 ≤ n ∧ n ≤ 1 then rd + 1 else rd) (if 0 ≤ gr ∧ gr ≤ 5 ∧ -7 ≤ n ∧ n ≤ 1 ∧ ¬ thP (G gr 0 1) (G gr 0 2) (G gr 1) (sOf (G gr 0 1) (G gr 0 5) (G gr 0 6) n jr) then vr + 1 else vr) (if 0 ≤ gr ∧ gr ≤ 5 ∧ -7 ≤ n ∧ n ≤ 1 ∧ thP (G gr 0 1) (G gr 0 2) (G gr 1) (sOf (G gr 0 1) (G gr 0 5) (G gr 0 6) n jr) then gU G gr (xRe (G gr) (sOf (G gr 0 1) (G gr 0 5) (G gr 0 6) n jr)) else G)) H := by rw [eqc_rd, eqc_vr, eqc_G]; exact hP
    have hD : va_D A (wSt E q jb jr lf jf (if 0 ≤ gr ∧ gr ≤ 5 ∧ -7 ≤ n ∧ n ≤ 1 then rd + 1 else rd) (if 0 ≤ gr ∧ gr ≤ 5 ∧ -7 ≤ n ∧ n ≤ 1 ∧ ¬ thP (G gr 0 1) (G gr 0 2) (G gr 1) (sOf (G gr 0 1) (G gr 0 5) (G gr 0 6) n jr) then vr + 1 else vr) (if 0 ≤ gr ∧ gr ≤ 5 ∧ -7 ≤ n ∧ n ≤ 1 ∧ thP (G gr 0 1) (G gr 0 2) (G gr 1) (sOf (G gr 0 1) (G gr 0 5) (G gr 0 6) n jr) then gU G gr (xRe (G gr) (sOf (G gr 0 1) (G gr 0 5) (G gr 0 6) n jr)) else G)) := by rw [eqc_rd, eqc_vr, eqc_G]; exact hD
    exact z_iret hx hb hr hlocks hK hS () (by (repeat (first | with_reducible rfl | rw [if_pos (by omega)] | rw [if_neg (by omega)]))) hP hD dX2_readByName_9

theorem ndX2_deleteByName : yX2_deleteByName.cls = RX2 ∧ yX2_deleteByName.cls ≠ "java/lang/invoke/MethodHandle" ∧ yX2_deleteByName.cls ≠ "java/lang/invoke/VarHandle" ∧ (parseMethodDescriptor yX2_deleteByName.desc).map (fun d => d.parameters.length) = some 2 := by decide +kernel
set_option maxRecDepth 100000 in
set_option maxHeartbeats 1000000 in
theorem c_X2_deleteByName (l : Launch) (E : zE) (q : Nat → Nat) (jb jr lf jf rd vr : Int) (G : Int → zGr) (gr : Int) (n : Int) (h0 : rg gr) (h1 : rg n) (h2 : SI G) (h3 : jr = 0 ∨ jr = 1) : zF l E yX2_deleteByName wsX2_deleteByName 3 63 [.ref (q 0), .int (iI gr), .int (iI n)] (wSt E q jb jr lf jf rd vr G) (if ¬ (0 ≤ gr ∧ gr ≤ 5) then -1 else if ¬ (-7 ≤ n ∧ n ≤ 1) then -2 else if thP (G gr 0 1) (G gr 0 2) (G gr 1) (sOf (G gr 0 1) (G gr 0 5) (G gr 0 6) n jr) then nO (sOf (G gr 0 1) (G gr 0 5) (G gr 0 6) n jr) else -5) (wSt E q jb jr lf jf rd vr (if 0 ≤ gr ∧ gr ≤ 5 ∧ -7 ≤ n ∧ n ≤ 1 ∧ thP (G gr 0 1) (G gr 0 2) (G gr 1) (sOf (G gr 0 1) (G gr 0 5) (G gr 0 6) n jr) then gU G gr (xHo (G gr) (sOf (G gr 0 1) (G gr 0 5) (G gr 0 6) n jr)) else G)) := by
  have hsi := h2
  refine zC_of (cc := cX2_deleteByName) (maxL := 5) (by decide) rfl (Nat.le_of_ble_eq_true rfl) ?_
  intro p e s m below meth c ls A hx hb hr hts hown hlocks hml hK hA hS hP hD hl
  have hown : s.vm.findClass RX2 = some m.cls := hown
  have hl : lv_has ls 5 [(0, .ref (q 0)), (1, .int (iI gr)), (2, .int (iI n))] := hl
  have hinX2 : ∀ v ∈ u_ws RX2 TX2 7, v ∈ wsX2_deleteByName := by decide +kernel
  have hf_11 := hts (.fieldLink RX2 11 "GenerationNames$State" "groups" "[LGenerationNames$Group;") (by decide +kernel)
  have hf_21 := hts (.fieldLink RX2 21 "GenerationNames$State" "jobRuns" "Z") (by decide +kernel)
  refine lv_aload_n hx hb dX2_deleteByName_0 rfl (lv_at hl 0 rfl) ?_
  refine lv_iload_n hx hb dX2_deleteByName_1 rfl (lv_at hl 1 rfl) ?_
  refine z_callV0 (ci := 2) (qk := 0) (As := [.int (iI gr)]) (rest := []) hx hb hml hown hts hK hA hl.1 hP hD hS (c_X2_isGroup l E q jb jr lf jf rd vr G gr  (by first | omega | exact hx3 | exact hx3 _ (by omega) (by omega) | exact ⟨by omega, by omega⟩)) gX2_deleteByName_X2_isGroup rfl ndX2_isGroup ⟨Nat.le_of_ble_eq_true rfl, Nat.le_of_ble_eq_true rfl⟩ rfl rfl rfl rfl rfl (Nat.le_of_ble_eq_true rfl) dX2_deleteByName_2 ⟨Nat.le_of_ble_eq_true rfl, Nat.le_of_ble_eq_true rfl⟩ (fun x u H locs hpost hP hD hS => ?_)
  subst hpost
  have hP : va_P E.1 vwCl (wSt E q jb jr lf jf rd vr G) H := hP
  have hD : va_D A (wSt E q jb jr lf jf rd vr G) := hD
  refine z_ifb_ne (tgt := 10) hx hb dX2_deleteByName_5 (by decide) (fun c_5 => ?_) (fun c_5 => ?_)
  · refine lv_aload_n hx hb dX2_deleteByName_10 rfl (lv_at hl 0 rfl) ?_
    refine lv_iload_n hx hb dX2_deleteByName_11 rfl (lv_at hl 2 rfl) ?_
    refine z_callV0 (ci := 2) (qk := 0) (As := [.int (iI n)]) (rest := []) hx hb hml hown hts hK hA hl.1 hP hD hS (c_X2_isName l E q jb jr lf jf rd vr G n  (by first | omega | exact hx3 | exact hx3 _ (by omega) (by omega) | exact ⟨by omega, by omega⟩)) gX2_deleteByName_X2_isName rfl ndX2_isName ⟨Nat.le_of_ble_eq_true rfl, Nat.le_of_ble_eq_true rfl⟩ rfl rfl rfl rfl rfl (Nat.le_of_ble_eq_true rfl) dX2_deleteByName_12 ⟨Nat.le_of_ble_eq_true rfl, Nat.le_of_ble_eq_true rfl⟩ (fun x u H locs hpost hP hD hS => ?_)
    subst hpost
    have hP : va_P E.1 vwCl (wSt E q jb jr lf jf rd vr G) H := hP
    have hD : va_D A (wSt E q jb jr lf jf rd vr G) := hD
    refine z_ifb_ne (tgt := 21) hx hb dX2_deleteByName_15 (by decide) (fun c_15 => ?_) (fun c_15 => ?_)
    · refine lv_aload_n hx hb dX2_deleteByName_21 rfl (lv_at hl 0 rfl) ?_
      refine va_get (D := E.1) (cl := vwCl) (ci := 2) (v := .ref (q 1)) (C := RX2) (T := TX2) (N := 7) hx hb hts hinX2 hown hK hP 0 rfl rfl 0 (by decide) hf_11 (fun _ h => h) rfl dX2_deleteByName_22 ?_
      refine lv_iload_n hx hb dX2_deleteByName_25 rfl (lv_at hl 1 rfl) ?_
      refine z_aald (D := E.1) (cl := vwCl) (tys := zT E) (f := fun j : Nat => q (2 + 4 * j)) hx hb hK hP 1 3 rfl rfl (by omega) (by omega) (by omega) dX2_deleteByName_26 ?_
      refine W.eq (g2 := F0 m 27 ls [.ref (gq q gr 0)]) rfl ?_
      have hP := zP_perm hP (wS_perm (g := gr) (by omega))
      have hD := zD_perm hD (wS_perm (g := gr) (by omega))
      obtain ⟨hx1, hx2, hx3, hx4, hx5, hx6⟩ := hsi gr (by omega) (by omega)
      have hso := sOf_rg (ne := G gr 0 1) (nj := G gr 0 5) (mj := G gr 0 6) (n := n) (b := jr) (by omega) (by omega) (by omega) (by omega)
      have hP : va_P E.1 vwCl (wF E q gr (wR E q G gr) jb jr lf jf rd vr (G gr 0 0) (G gr 0 1) (G gr 0 2) (G gr 0 3) (G gr 0 4) (G gr 0 5) (G gr 0 6) (G gr 1) (G gr 2) (G gr 3)) H := hP
      have hD : va_D A (wF E q gr (wR E q G gr) jb jr lf jf rd vr (G gr 0 0) (G gr 0 1) (G gr 0 2) (G gr 0 3) (G gr 0 4) (G gr 0 5) (G gr 0 6) (G gr 1) (G gr 2) (G gr 3)) := hD
      refine lv_astore_n (lv' := [(3, .ref (gq q gr 0)), (0, .ref (q 0)), (1, .int (iI gr)), (2, .int (iI n))]) hx hb dX2_deleteByName_27 rfl hl (by decide) rfl (fun ls hl => ?_)
      refine lv_aload_n hx hb dX2_deleteByName_28 rfl (lv_at hl 0 rfl) ?_
      refine lv_iload_n hx hb dX2_deleteByName_29 rfl (lv_at hl 3 rfl) ?_
      refine lv_aload_n hx hb dX2_deleteByName_30 rfl (lv_at hl 1 rfl) ?_
      refine va_get (D := E.1) (cl := vwCl) (ci := 2) (v := .int (iI jr)) (C := RX2) (T := TX2) (N := 7) hx hb hts hinX2 hown hK hP 0 rfl rfl 2 (by decide) hf_21 (fun _ h => h) rfl dX2_deleteByName_31 ?_
      refine z_callM (w0 := wS2 E q jb jr lf jf rd vr) (ci := 0) (qk := 0) (As := [.int (iI n), .int (iI jr)]) (rest := []) hx hb hml hown hts hK hA hl.1 hP hD hS (c_X0_serialOf l E (gq q gr) (G gr 1) (G gr 2) (G gr 3) (G gr 0 0) (G gr 0 1) (G gr 0 2) (G gr 0 3) (G gr 0 4) (G gr 0 5) (G gr 0 6) n jr  (by first | omega | exact hx3 | exact hx3 _ (by omega) (by omega) | exact ⟨by omega, by omega⟩) (by first | omega | exact hx3 | exact hx3 _ (by omega) (by omega) | exact ⟨by omega, by omega⟩)) gX2_deleteByName_X0_serialOf rfl ndX0_serialOf ⟨Nat.le_of_ble_eq_true rfl, Nat.le_of_ble_eq_true rfl⟩ rfl rfl rfl rfl rfl (Nat.le_of_ble_eq_true rfl) dX2_deleteByName_34 ⟨Nat.le_of_ble_eq_true rfl, Nat.le_of_ble_eq_true rfl⟩ (fun x u H locs hpost hP hD hS => ?_)
      subst hpost
      have hP : va_P E.1 vwCl (wF E q gr (wR E q G gr) jb jr lf jf rd vr (G gr 0 0) (G gr 0 1) (G gr 0 2) (G gr 0 3) (G gr 0 4) (G gr 0 5) (G gr 0 6) (G gr 1) (G gr 2) (G gr 3)) H := hP
      have hD : va_D A (wF E q gr (wR E q G gr) jb jr lf jf rd vr (G gr 0 0) (G gr 0 1) (G gr 0 2) (G gr 0 3) (G gr 0 4) (G gr 0 5) (G gr 0 6) (G gr 1) (G gr 2) (G gr 3)) := hD
      refine lv_istore (lv' := [(4, .int (iI (sOf (G gr 0 1) (G gr 0 5) (G gr 0 6) n jr))), (3, .ref (gq q gr 0)), (0, .ref (q 0)), (1, .int (iI gr)), (2, .int (iI n))]) hx hb dX2_deleteByName_37 hl (by decide) rfl (fun ls hl => ?_)
      refine lv_aload_n hx hb dX2_deleteByName_39 rfl (lv_at hl 1 rfl) ?_
      refine lv_iload hx hb dX2_deleteByName_40 (lv_at hl 0 rfl) ?_
      refine z_callM (w0 := wS2 E q jb jr lf jf rd vr) (ci := 0) (qk := 0) (As := [.int (iI (sOf (G gr 0 1) (G gr 0 5) (G gr 0 6) n jr))]) (rest := []) hx hb hml hown hts hK hA hl.1 hP hD hS (c_X0_isThere l E (gq q gr) (G gr 1) (G gr 2) (G gr 3) (G gr 0 0) (G gr 0 1) (G gr 0 2) (G gr 0 3) (G gr 0 4) (G gr 0 5) (G gr 0 6) (sOf (G gr 0 1) (G gr 0 5) (G gr 0 6) n jr)  (by first | omega | exact hx3 | exact hx3 _ (by omega) (by omega) | exact ⟨by omega, by omega⟩) (by first | omega | exact hx3 | exact hx3 _ (by omega) (by omega) | exact ⟨by omega, by omega⟩) (by first | omega | exact hx3 | exact hx3 _ (by omega) (by omega) | exact ⟨by omega, by omega⟩) (by first | omega | exact hx3 | exact hx3 _ (by omega) (by omega) | exact ⟨by omega, by omega⟩)) gX2_deleteByName_X0_isThere rfl ndX0_isThere ⟨Nat.le_of_ble_eq_true rfl, Nat.le_of_ble_eq_true rfl⟩ rfl rfl rfl rfl rfl (Nat.le_of_ble_eq_true rfl) dX2_deleteByName_42 ⟨Nat.le_of_ble_eq_true rfl, Nat.le_of_ble_eq_true rfl⟩ (fun x u H locs hpost hP hD hS => ?_)
      subst hpost
      have hP : va_P E.1 vwCl (wF E q gr (wR E q G gr) jb jr lf jf rd vr (G gr 0 0) (G gr 0 1) (G gr 0 2) (G gr 0 3) (G gr 0 4) (G gr 0 5) (G gr 0 6) (G gr 1) (G gr 2) (G gr 3)) H := hP
      have hD : va_D A (wF E q gr (wR E q G gr) jb jr lf jf rd vr (G gr 0 0) (G gr 0 1) (G gr 0 2) (G gr 0 3) (G gr 0 4) (G gr 0 5) (G gr 0 6) (G gr 1) (G gr 2) (G gr 3)) := hD
      refine z_ifb_ne (tgt := 51) hx hb dX2_deleteByName_45 (by decide) (fun c_45 => ?_) (fun c_45 => ?_)
      · refine lv_aload_n hx hb dX2_deleteByName_51 rfl (lv_at hl 1 rfl) ?_
        refine lv_iload hx hb dX2_deleteByName_52 (lv_at hl 0 rfl) ?_
        refine z_callMv (w0 := wS2 E q jb jr lf jf rd vr) (ci := 0) (qk := 0) (As := [.int (iI (sOf (G gr 0 1) (G gr 0 5) (G gr 0 6) n jr))]) (rest := []) hx hb hml hown hts hK hA hl.1 hP hD hS (c_X0_makeHole l E (gq q gr) (G gr 1) (G gr 2) (G gr 3) (G gr 0 0) (G gr 0 1) (G gr 0 2) (G gr 0 3) (G gr 0 4) (G gr 0 5) (G gr 0 6) (sOf (G gr 0 1) (G gr 0 5) (G gr 0 6) n jr)  (by first | omega | exact hx3 | exact hx3 _ (by omega) (by omega) | exact ⟨by omega, by omega⟩) (by first | omega | exact hx3 | exact hx3 _ (by omega) (by omega) | exact ⟨by omega, by omega⟩) (by first | omega | exact hx3 | exact hx3 _ (by omega) (by omega) | exact ⟨by omega, by omega⟩) (by first | omega | exact hx3 | exact hx3 _ (by omega) (by omega) | exact ⟨by omega, by omega⟩)) gX2_deleteByName_X0_makeHole rfl ndX0_makeHole ⟨Nat.le_of_ble_eq_true rfl, Nat.le_of_ble_eq_true rfl⟩ rfl rfl rfl rfl rfl (Nat.le_of_ble_eq_true rfl) dX2_deleteByName_54 ⟨Nat.le_of_ble_eq_true rfl, Nat.le_of_ble_eq_true rfl⟩ (fun u H locs hpost hP hD hS => ?_)
        have hP : va_P E.1 vwCl (wF E q gr (wR E q G gr) jb jr lf jf rd vr (G gr 0 0) (G gr 0 1) ((cL (iU (G gr 1) ((sOf (G gr 0 1) (G gr 0 5) (G gr 0 6) n jr) % 8) (-6)) (G gr 0 1) (G gr 0 0) (G gr 0 2) (G gr 0 3)).1) ((cL (iU (G gr 1) ((sOf (G gr 0 1) (G gr 0 5) (G gr 0 6) n jr) % 8) (-6)) (G gr 0 1) (G gr 0 0) (G gr 0 2) (G gr 0 3)).2) ((G gr 0 4) + 1) (G gr 0 5) (G gr 0 6) (iU (G gr 1) ((sOf (G gr 0 1) (G gr 0 5) (G gr 0 6) n jr) % 8) (-6)) (G gr 2) (G gr 3)) H := hP
        have hD : va_D A (wF E q gr (wR E q G gr) jb jr lf jf rd vr (G gr 0 0) (G gr 0 1) ((cL (iU (G gr 1) ((sOf (G gr 0 1) (G gr 0 5) (G gr 0 6) n jr) % 8) (-6)) (G gr 0 1) (G gr 0 0) (G gr 0 2) (G gr 0 3)).1) ((cL (iU (G gr 1) ((sOf (G gr 0 1) (G gr 0 5) (G gr 0 6) n jr) % 8) (-6)) (G gr 0 1) (G gr 0 0) (G gr 0 2) (G gr 0 3)).2) ((G gr 0 4) + 1) (G gr 0 5) (G gr 0 6) (iU (G gr 1) ((sOf (G gr 0 1) (G gr 0 5) (G gr 0 6) n jr) % 8) (-6)) (G gr 2) (G gr 3)) := hD
        refine lv_aload_n hx hb dX2_deleteByName_57 rfl (lv_at hl 1 rfl) ?_
        refine lv_iload hx hb dX2_deleteByName_58 (lv_at hl 0 rfl) ?_
        refine z_callM (w0 := wS2 E q jb jr lf jf rd vr) (ci := 0) (qk := 0) (As := [.int (iI (sOf (G gr 0 1) (G gr 0 5) (G gr 0 6) n jr))]) (rest := []) hx hb hml hown hts hK hA hl.1 hP hD hS (c_X0_numberOf l E (gq q gr) (iU (G gr 1) ((sOf (G gr 0 1) (G gr 0 5) (G gr 0 6) n jr) % 8) (-6)) (G gr 2) (G gr 3) (G gr 0 0) (G gr 0 1) ((cL (iU (G gr 1) ((sOf (G gr 0 1) (G gr 0 5) (G gr 0 6) n jr) % 8) (-6)) (G gr 0 1) (G gr 0 0) (G gr 0 2) (G gr 0 3)).1) ((cL (iU (G gr 1) ((sOf (G gr 0 1) (G gr 0 5) (G gr 0 6) n jr) % 8) (-6)) (G gr 0 1) (G gr 0 0) (G gr 0 2) (G gr 0 3)).2) ((G gr 0 4) + 1) (G gr 0 5) (G gr 0 6) (sOf (G gr 0 1) (G gr 0 5) (G gr 0 6) n jr)  (by first | omega | exact hx3 | exact hx3 _ (by omega) (by omega) | exact ⟨by omega, by omega⟩)) gX2_deleteByName_X0_numberOf rfl ndX0_numberOf ⟨Nat.le_of_ble_eq_true rfl, Nat.le_of_ble_eq_true rfl⟩ rfl rfl rfl rfl rfl (Nat.le_of_ble_eq_true rfl) dX2_deleteByName_60 ⟨Nat.le_of_ble_eq_true rfl, Nat.le_of_ble_eq_true rfl⟩ (fun x u H locs hpost hP hD hS => ?_)
        subst hpost
        have hP : va_P E.1 vwCl (wF E q gr (wR E q G gr) jb jr lf jf rd vr (G gr 0 0) (G gr 0 1) ((cL (iU (G gr 1) ((sOf (G gr 0 1) (G gr 0 5) (G gr 0 6) n jr) % 8) (-6)) (G gr 0 1) (G gr 0 0) (G gr 0 2) (G gr 0 3)).1) ((cL (iU (G gr 1) ((sOf (G gr 0 1) (G gr 0 5) (G gr 0 6) n jr) % 8) (-6)) (G gr 0 1) (G gr 0 0) (G gr 0 2) (G gr 0 3)).2) ((G gr 0 4) + 1) (G gr 0 5) (G gr 0 6) (iU (G gr 1) ((sOf (G gr 0 1) (G gr 0 5) (G gr 0 6) n jr) % 8) (-6)) (G gr 2) (G gr 3)) H := hP
        have hD : va_D A (wF E q gr (wR E q G gr) jb jr lf jf rd vr (G gr 0 0) (G gr 0 1) ((cL (iU (G gr 1) ((sOf (G gr 0 1) (G gr 0 5) (G gr 0 6) n jr) % 8) (-6)) (G gr 0 1) (G gr 0 0) (G gr 0 2) (G gr 0 3)).1) ((cL (iU (G gr 1) ((sOf (G gr 0 1) (G gr 0 5) (G gr 0 6) n jr) % 8) (-6)) (G gr 0 1) (G gr 0 0) (G gr 0 2) (G gr 0 3)).2) ((G gr 0 4) + 1) (G gr 0 5) (G gr 0 6) (iU (G gr 1) ((sOf (G gr 0 1) (G gr 0 5) (G gr 0 6) n jr) % 8) (-6)) (G gr 2) (G gr 3)) := hD
        have hP : va_P E.1 vwCl (wSt E q jb jr lf jf rd vr (gU G gr (xHo (G gr) (sOf ((G gr) 0 1) ((G gr) 0 5) ((G gr) 0 6) n jr)))) H := zP_perm hP (wF_perm (g := gr) (by omega))
        have hD : va_D A (wSt E q jb jr lf jf rd vr (gU G gr (xHo (G gr) (sOf ((G gr) 0 1) ((G gr) 0 5) ((G gr) 0 6) n jr)))) := zD_perm hD (wF_perm (g := gr) (by omega))
        have eqc_G : (if 0 ≤ gr ∧ gr ≤ 5 ∧ -7 ≤ n ∧ n ≤ 1 ∧ thP (G gr 0 1) (G gr 0 2) (G gr 1) (sOf (G gr 0 1) (G gr 0 5) (G gr 0 6) n jr) then gU G gr (xHo (G gr) (sOf (G gr 0 1) (G gr 0 5) (G gr 0 6) n jr)) else G) = (gU G gr (xHo (G gr) (sOf ((G gr) 0 1) ((G gr) 0 5) ((G gr) 0 6) n jr))) := by (repeat (first | with_reducible rfl | rw [if_pos (by omega)] | rw [if_neg (by omega)]))
        have hP : va_P E.1 vwCl (wSt E q jb jr lf jf rd vr (if 0 ≤ gr ∧ gr ≤ 5 ∧ -7 ≤ n ∧ n ≤ 1 ∧ thP (G gr 0 1) (G gr 0 2) (G gr 1) (sOf (G gr 0 1) (G gr 0 5) (G gr 0 6) n jr) then gU G gr (xHo (G gr) (sOf (G gr 0 1) (G gr 0 5) (G gr 0 6) n jr)) else G)) H := by rw [eqc_G]; exact hP
        have hD : va_D A (wSt E q jb jr lf jf rd vr (if 0 ≤ gr ∧ gr ≤ 5 ∧ -7 ≤ n ∧ n ≤ 1 ∧ thP (G gr 0 1) (G gr 0 2) (G gr 1) (sOf (G gr 0 1) (G gr 0 5) (G gr 0 6) n jr) then gU G gr (xHo (G gr) (sOf (G gr 0 1) (G gr 0 5) (G gr 0 6) n jr)) else G)) := by rw [eqc_G]; exact hD
        exact z_iret hx hb hr hlocks hK hS () (by (repeat (first | with_reducible rfl | rw [if_pos (by omega)] | rw [if_neg (by omega)]))) hP hD dX2_deleteByName_63
      · refine lv_bipush (v := iI (-5)) hx hb dX2_deleteByName_48 (by decide) ?_
        have hP : va_P E.1 vwCl (wSt E q jb jr lf jf rd vr G) H := zP_perm hP (wS_perm (g := gr) (by omega)).symm
        have hD : va_D A (wSt E q jb jr lf jf rd vr G) := zD_perm hD (wS_perm (g := gr) (by omega)).symm
        have eqc_G : (if 0 ≤ gr ∧ gr ≤ 5 ∧ -7 ≤ n ∧ n ≤ 1 ∧ thP (G gr 0 1) (G gr 0 2) (G gr 1) (sOf (G gr 0 1) (G gr 0 5) (G gr 0 6) n jr) then gU G gr (xHo (G gr) (sOf (G gr 0 1) (G gr 0 5) (G gr 0 6) n jr)) else G) = G := by (repeat (first | with_reducible rfl | rw [if_pos (by omega)] | rw [if_neg (by omega)]))
        have hP : va_P E.1 vwCl (wSt E q jb jr lf jf rd vr (if 0 ≤ gr ∧ gr ≤ 5 ∧ -7 ≤ n ∧ n ≤ 1 ∧ thP (G gr 0 1) (G gr 0 2) (G gr 1) (sOf (G gr 0 1) (G gr 0 5) (G gr 0 6) n jr) then gU G gr (xHo (G gr) (sOf (G gr 0 1) (G gr 0 5) (G gr 0 6) n jr)) else G)) H := by rw [eqc_G]; exact hP
        have hD : va_D A (wSt E q jb jr lf jf rd vr (if 0 ≤ gr ∧ gr ≤ 5 ∧ -7 ≤ n ∧ n ≤ 1 ∧ thP (G gr 0 1) (G gr 0 2) (G gr 1) (sOf (G gr 0 1) (G gr 0 5) (G gr 0 6) n jr) then gU G gr (xHo (G gr) (sOf (G gr 0 1) (G gr 0 5) (G gr 0 6) n jr)) else G)) := by rw [eqc_G]; exact hD
        exact z_iret hx hb hr hlocks hK hS () (by (repeat (first | with_reducible rfl | rw [if_pos (by omega)] | rw [if_neg (by omega)]))) hP hD dX2_deleteByName_50
    · refine lv_bipush (v := iI (-2)) hx hb dX2_deleteByName_18 (by decide) ?_
      have eqc_G : (if 0 ≤ gr ∧ gr ≤ 5 ∧ -7 ≤ n ∧ n ≤ 1 ∧ thP (G gr 0 1) (G gr 0 2) (G gr 1) (sOf (G gr 0 1) (G gr 0 5) (G gr 0 6) n jr) then gU G gr (xHo (G gr) (sOf (G gr 0 1) (G gr 0 5) (G gr 0 6) n jr)) else G) = G := by (repeat (first | with_reducible rfl | rw [if_pos (by omega)] | rw [if_neg (by omega)]))
      have hP : va_P E.1 vwCl (wSt E q jb jr lf jf rd vr (if 0 ≤ gr ∧ gr ≤ 5 ∧ -7 ≤ n ∧ n ≤ 1 ∧ thP (G gr 0 1) (G gr 0 2) (G gr 1) (sOf (G gr 0 1) (G gr 0 5) (G gr 0 6) n jr) then gU G gr (xHo (G gr) (sOf (G gr 0 1) (G gr 0 5) (G gr 0 6) n jr)) else G)) H := by rw [eqc_G]; exact hP
      have hD : va_D A (wSt E q jb jr lf jf rd vr (if 0 ≤ gr ∧ gr ≤ 5 ∧ -7 ≤ n ∧ n ≤ 1 ∧ thP (G gr 0 1) (G gr 0 2) (G gr 1) (sOf (G gr 0 1) (G gr 0 5) (G gr 0 6) n jr) then gU G gr (xHo (G gr) (sOf (G gr 0 1) (G gr 0 5) (G gr 0 6) n jr)) else G)) := by rw [eqc_G]; exact hD
      exact z_iret hx hb hr hlocks hK hS () (by (repeat (first | with_reducible rfl | rw [if_pos (by omega)] | rw [if_neg (by omega)]))) hP hD dX2_deleteByName_20
  · refine lv_iconst (v := iI (-1)) hx hb dX2_deleteByName_8 (by decide) ?_
    have eqc_G : (if 0 ≤ gr ∧ gr ≤ 5 ∧ -7 ≤ n ∧ n ≤ 1 ∧ thP (G gr 0 1) (G gr 0 2) (G gr 1) (sOf (G gr 0 1) (G gr 0 5) (G gr 0 6) n jr) then gU G gr (xHo (G gr) (sOf (G gr 0 1) (G gr 0 5) (G gr 0 6) n jr)) else G) = G := by (repeat (first | with_reducible rfl | rw [if_pos (by omega)] | rw [if_neg (by omega)]))
    have hP : va_P E.1 vwCl (wSt E q jb jr lf jf rd vr (if 0 ≤ gr ∧ gr ≤ 5 ∧ -7 ≤ n ∧ n ≤ 1 ∧ thP (G gr 0 1) (G gr 0 2) (G gr 1) (sOf (G gr 0 1) (G gr 0 5) (G gr 0 6) n jr) then gU G gr (xHo (G gr) (sOf (G gr 0 1) (G gr 0 5) (G gr 0 6) n jr)) else G)) H := by rw [eqc_G]; exact hP
    have hD : va_D A (wSt E q jb jr lf jf rd vr (if 0 ≤ gr ∧ gr ≤ 5 ∧ -7 ≤ n ∧ n ≤ 1 ∧ thP (G gr 0 1) (G gr 0 2) (G gr 1) (sOf (G gr 0 1) (G gr 0 5) (G gr 0 6) n jr) then gU G gr (xHo (G gr) (sOf (G gr 0 1) (G gr 0 5) (G gr 0 6) n jr)) else G)) := by rw [eqc_G]; exact hD
    exact z_iret hx hb hr hlocks hK hS () (by (repeat (first | with_reducible rfl | rw [if_pos (by omega)] | rw [if_neg (by omega)]))) hP hD dX2_deleteByName_9
