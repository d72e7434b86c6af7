theorem ndX3_isSlot : yX3_isSlot.cls = RX3 ∧ yX3_isSlot.cls ≠ "java/lang/invoke/MethodHandle" ∧ yX3_isSlot.cls ≠ "java/lang/invoke/VarHandle" ∧ (parseMethodDescriptor yX3_isSlot.desc).map (fun d => d.parameters.length) = some 1 := by decide +kernel
set_option maxRecDepth 100000 in
set_option maxHeartbeats 60000 in
theorem c_X3_isSlot (l : Launch) (E : zE) (sn : Int) (h0 : rg sn) : zF l E yX3_isSlot wsX3_isSlot 0 0 [.int (iI sn)] ([]) (zb (0 ≤ sn ∧ sn ≤ 1)) ([]) := by
  refine zC_of (cc := cX3_isSlot) (maxL := 1) (by decide) rfl (Nat.le_of_ble_eq_true rfl) ?_
  intro p e s m below meth c ls A hx hb hr hts hown hlocks hml hK hA hS hP hD hl
  have hown : s.vm.findClass RX3 = some m.cls := hown
  have hl : lv_has ls 1 [(0, .int (iI sn))] := hl
  refine lv_iload_n hx hb dX3_isSlot_0 rfl (lv_at hl 0 rfl) ?_
  refine z_if_lt (tgt := 13) hx hb dX3_isSlot_1 (by decide) ⟨by omega, by omega⟩ (fun c_1 => ?_) (fun c_1 => ?_)
  · refine lv_iconst (v := iI 0) hx hb dX3_isSlot_13 (by decide) ?_
    exact z_zret hx hb hr hlocks hK hS (Or.inl rfl) () (by first | rfl | trivial | exact zb_t' (by omega) | exact zb_f' (by omega) | omega) hP hD dX3_isSlot_14
  · refine lv_iload_n hx hb dX3_isSlot_4 rfl (lv_at hl 0 rfl) ?_
    refine lv_iconst (v := iI 2) hx hb dX3_isSlot_5 (by decide) ?_
    refine z_icmp_ge (tgt := 13) hx hb dX3_isSlot_6 (by decide) ⟨by omega, by omega⟩ ⟨by omega, by omega⟩ (fun c_6 => ?_) (fun c_6 => ?_)
    · refine lv_iconst (v := iI 0) hx hb dX3_isSlot_13 (by decide) ?_
      exact z_zret hx hb hr hlocks hK hS (Or.inl rfl) () (by first | rfl | trivial | exact zb_t' (by omega) | exact zb_f' (by omega) | omega) hP hD dX3_isSlot_14
    · refine lv_iconst (v := iI 1) hx hb dX3_isSlot_9 (by decide) ?_
      refine lv_goto (tgt := 14) hx hb dX3_isSlot_10 (by decide) ?_
      exact z_zret hx hb hr hlocks hK hS (Or.inr rfl) () (by first | rfl | trivial | exact zb_t' (by omega) | exact zb_f' (by omega) | omega) hP hD dX3_isSlot_14

theorem ndX3_isError : yX3_isError.cls = RX3 ∧ yX3_isError.cls ≠ "java/lang/invoke/MethodHandle" ∧ yX3_isError.cls ≠ "java/lang/invoke/VarHandle" ∧ (parseMethodDescriptor yX3_isError.desc).map (fun d => d.parameters.length) = some 1 := by decide +kernel
set_option maxRecDepth 100000 in
set_option maxHeartbeats 60000 in
theorem c_X3_isError (l : Launch) (E : zE) (xx : Int) (h0 : rg xx) : zF l E yX3_isError wsX3_isError 0 0 [.int (iI xx)] ([]) (zb (xx < 0 ∧ ¬ xx = -6)) ([]) := by
  refine zC_of (cc := cX3_isError) (maxL := 1) (by decide) rfl (Nat.le_of_ble_eq_true rfl) ?_
  intro p e s m below meth c ls A hx hb hr hts hown hlocks hml hK hA hS hP hD hl
  have hown : s.vm.findClass RX3 = some m.cls := hown
  have hl : lv_has ls 1 [(0, .int (iI xx))] := hl
  refine lv_iload_n hx hb dX3_isError_0 rfl (lv_at hl 0 rfl) ?_
  refine z_if_ge (tgt := 14) hx hb dX3_isError_1 (by decide) ⟨by omega, by omega⟩ (fun c_1 => ?_) (fun c_1 => ?_)
  · refine lv_iconst (v := iI 0) hx hb dX3_isError_14 (by decide) ?_
    exact z_zret hx hb hr hlocks hK hS (Or.inl rfl) () (by first | rfl | trivial | exact zb_t' (by omega) | exact zb_f' (by omega) | omega) hP hD dX3_isError_15
  · refine lv_iload_n hx hb dX3_isError_4 rfl (lv_at hl 0 rfl) ?_
    refine lv_bipush (v := iI (-6)) hx hb dX3_isError_5 (by decide) ?_
    refine z_icmp_eq (tgt := 14) hx hb dX3_isError_7 (by decide) ⟨by omega, by omega⟩ ⟨by omega, by omega⟩ (fun c_7 => ?_) (fun c_7 => ?_)
    · refine lv_iconst (v := iI 0) hx hb dX3_isError_14 (by decide) ?_
      exact z_zret hx hb hr hlocks hK hS (Or.inl rfl) () (by first | rfl | trivial | exact zb_t' (by omega) | exact zb_f' (by omega) | omega) hP hD dX3_isError_15
    · refine lv_iconst (v := iI 1) hx hb dX3_isError_10 (by decide) ?_
      refine lv_goto (tgt := 15) hx hb dX3_isError_11 (by decide) ?_
      exact z_zret hx hb hr hlocks hK hS (Or.inr rfl) () (by first | rfl | trivial | exact zb_t' (by omega) | exact zb_f' (by omega) | omega) hP hD dX3_isError_15

theorem ndX3_noteStateBefore : yX3_noteStateBefore.cls = RX3 ∧ yX3_noteStateBefore.cls ≠ "java/lang/invoke/MethodHandle" ∧ yX3_noteStateBefore.cls ≠ "java/lang/invoke/VarHandle" ∧ (parseMethodDescriptor yX3_noteStateBefore.desc).map (fun d => d.parameters.length) = some 0 := by decide +kernel
set_option maxRecDepth 100000 in
set_option maxHeartbeats 60000 in
theorem c_X3_noteStateBefore (l : Launch) (E : zE) (q : Nat → Nat) (nq : Nat → Nat) (sa ha : Int → Nat → Nat) (un : Int) (svd sg : Int → Int) (le : Int) (hv sv : Int → zSt) (jb jr lf jf rd vr : Int) (G : Int → zGr) (h0 : 0 ≤ un ∧ un ≤ 6) (h1 : jr = 0 ∨ jr = 1) (h2 : lf = 0 ∨ lf = 1) : zFv l E yX3_noteStateBefore wsX3_noteStateBefore 3 150 [.ref (q 0)] (wN E q nq sa ha un svd sg le hv sv jb jr lf jf rd vr G) (wN E q nq sa ha un svd sg le (hU hv un (cpS (hv un) jb jr lf jf rd vr G)) sv jb jr lf jf rd vr G) := by
  refine zCv_of (cc := cX3_noteStateBefore) (maxL := 1) (by decide) rfl (Nat.le_of_ble_eq_true rfl) ?_
  intro p e s m below meth c ls A hx hb hr hts hown hlocks hml hK hA hS hP hD hl
  have hown : s.vm.findClass RX3 = some m.cls := hown
  have hl : lv_has ls 1 [(0, .ref (q 0))] := hl
  have hinX3 : ∀ v ∈ u_ws RX3 TX3 6, v ∈ wsX3_noteStateBefore := by decide +kernel
  have hf_16 := hts (.fieldLink RX3 16 "GenerationNames" "history" "[LGenerationNames$State;") (by decide +kernel)
  have hf_20 := hts (.fieldLink RX3 20 "GenerationNames" "undoable" "I") (by decide +kernel)
  have hf_12 := hts (.fieldLink RX3 12 "GenerationNames" "now" "LGenerationNames$State;") (by decide +kernel)
  refine lv_aload_n hx hb dX3_noteStateBefore_0 rfl (lv_at hl 0 rfl) ?_
  refine va_get (D := E.1) (cl := vwCl) (ci := 3) (v := .ref (q 1)) (C := RX3) (T := TX3) (N := 6) hx hb hts hinX3 hown hK hP 0 rfl rfl 1 (by decide) hf_16 (fun _ h => h) rfl dX3_noteStateBefore_1 ?_
  refine lv_aload_n hx hb dX3_noteStateBefore_4 rfl (lv_at hl 0 rfl) ?_
  refine va_get (D := E.1) (cl := vwCl) (ci := 3) (v := .int (iI un)) (C := RX3) (T := TX3) (N := 6) hx hb hts hinX3 hown hK hP 0 rfl rfl 2 (by decide) hf_20 (fun _ h => h) rfl dX3_noteStateBefore_5 ?_
  refine z_aald (D := E.1) (cl := vwCl) (tys := zT E) (f := har ha) hx hb hK hP 1 4 rfl rfl (by omega) (by omega) (by omega) dX3_noteStateBefore_8 ?_
  rw [har_at (by omega)]
  refine lv_aload_n hx hb dX3_noteStateBefore_9 rfl (lv_at hl 0 rfl) ?_
  refine va_get (D := E.1) (cl := vwCl) (ci := 3) (v := .ref (nq 0)) (C := RX3) (T := TX3) (N := 6) hx hb hts hinX3 hown hK hP 0 rfl rfl 0 (by decide) hf_12 (fun _ h => h) rfl dX3_noteStateBefore_10 ?_
  refine z_cp (own := RX3) (rest := []) (q := ha un) (q2 := nq) hx hb hml hown hts hK hA hl.1 hP hD hS gX3_noteStateBefore_X2_copyFrom ⟨Nat.le_of_ble_eq_true rfl, Nat.le_of_ble_eq_true rfl⟩ (by omega) (by omega) (cpH1 (by omega)) (cpH2 (by omega)) rfl (Nat.le_of_ble_eq_true rfl) dX3_noteStateBefore_13 ⟨Nat.le_of_ble_eq_true rfl, Nat.le_of_ble_eq_true rfl⟩ (fun H locs hP hD hS => ?_)
  have hP : va_P E.1 vwCl (wN E q nq sa ha un svd sg le (hU hv un (cpS (hv un) jb jr lf jf rd vr G)) sv jb jr lf jf rd vr G) H := hP
  have hD : va_D A (wN E q nq sa ha un svd sg le (hU hv un (cpS (hv un) jb jr lf jf rd vr G)) sv jb jr lf jf rd vr G) := hD
  exact z_vret hx hb hr hlocks hK hS () trivial hP hD dX3_noteStateBefore_16

theorem ndX3_ofGroup : yX3_ofGroup.cls = RX3 ∧ yX3_ofGroup.cls ≠ "java/lang/invoke/MethodHandle" ∧ yX3_ofGroup.cls ≠ "java/lang/invoke/VarHandle" ∧ (parseMethodDescriptor yX3_ofGroup.desc).map (fun d => d.parameters.length) = some 2 := by decide +kernel
set_option maxRecDepth 100000 in
set_option maxHeartbeats 60000 in
theorem c_X3_ofGroup (l : Launch) (E : zE) (q : Nat → Nat) (nq : Nat → Nat) (sa ha : Int → Nat → Nat) (un : Int) (svd sg : Int → Int) (le : Int) (hv sv : Int → zSt) (jb jr lf jf rd vr : Int) (G : Int → zGr) (gr : Int) (k : Int) (h0 : rg gr) (h1 : rg k) (h2 : SI G) : zF l E yX3_ofGroup wsX3_ofGroup 3 66 [.ref (q 0), .int (iI gr), .int (iI k)] (wN E q nq sa ha un svd sg le hv sv jb jr lf jf rd vr G) (if ¬ (0 ≤ gr ∧ gr ≤ 5) then -1 else if k = 0 then G gr 0 0 else if k = 1 then G gr 0 2 else if k = 2 then cHo (G gr 0 1) (G gr 0 2) (G gr 1) else if k = 3 then nO (G gr 0 1) else if k = 4 then G gr 0 3 else if k = 5 then G gr 0 4 else if k = 6 then cSu (G gr 0 1) (G gr 0 2) (G gr 1) else -2) (wN E q nq sa ha un svd sg le hv sv jb jr lf jf rd vr G) := by
  refine zC_of (cc := cX3_ofGroup) (maxL := 3) (by decide) rfl (Nat.le_of_ble_eq_true rfl) ?_
  intro p e s m below meth c ls A hx hb hr hts hown hlocks hml hK hA hS hP hD hl
  have hown : s.vm.findClass RX3 = some m.cls := hown
  have hl : lv_has ls 3 [(0, .ref (q 0)), (1, .int (iI gr)), (2, .int (iI k))] := hl
  have hinX3 : ∀ v ∈ u_ws RX3 TX3 6, v ∈ wsX3_ofGroup := by decide +kernel
  have hf_12 := hts (.fieldLink RX3 12 "GenerationNames" "now" "LGenerationNames$State;") (by decide +kernel)
  refine lv_aload_n hx hb dX3_ofGroup_0 rfl (lv_at hl 0 rfl) ?_
  refine va_get (D := E.1) (cl := vwCl) (ci := 3) (v := .ref (nq 0)) (C := RX3) (T := TX3) (N := 6) hx hb hts hinX3 hown hK hP 0 rfl rfl 0 (by decide) hf_12 (fun _ h => h) rfl dX3_ofGroup_1 ?_
  refine lv_iload_n hx hb dX3_ofGroup_4 rfl (lv_at hl 1 rfl) ?_
  refine lv_iload_n hx hb dX3_ofGroup_5 rfl (lv_at hl 2 rfl) ?_
  rw [wN6] at hP hD
  refine z_callM (w0 := w6 E q nq sa ha un svd sg le) (ci := 2) (qk := 0) (As := [.int (iI gr), .int (iI k)]) (rest := []) hx hb hml hown hts hK hA hl.1 hP hD hS (c_X2_aboutGroup l E nq jb jr lf jf rd vr G gr k  (by first | omega | assumption) (by first | omega | assumption) (by first | omega | assumption)) gX3_ofGroup_X2_aboutGroup rfl ndX2_aboutGroup ⟨Nat.le_of_ble_eq_true rfl, Nat.le_of_ble_eq_true rfl⟩ rfl rfl rfl rfl rfl (Nat.le_of_ble_eq_true rfl) dX3_ofGroup_6 ⟨Nat.le_of_ble_eq_true rfl, Nat.le_of_ble_eq_true rfl⟩ (fun x u H locs hpost hP hD hS => ?_)
  subst hpost
  have hP : va_P E.1 vwCl (wN E q nq sa ha un svd sg le hv sv jb jr lf jf rd vr G) H := by rw [wN6]; exact hP
  have hD : va_D A (wN E q nq sa ha un svd sg le hv sv jb jr lf jf rd vr G) := by rw [wN6]; exact hD
  exact z_iret hx hb hr hlocks hK hS () rfl hP hD dX3_ofGroup_9

theorem ndX3_generation : yX3_generation.cls = RX3 ∧ yX3_generation.cls ≠ "java/lang/invoke/MethodHandle" ∧ yX3_generation.cls ≠ "java/lang/invoke/VarHandle" ∧ (parseMethodDescriptor yX3_generation.desc).map (fun d => d.parameters.length) = some 3 := by decide +kernel
set_option maxRecDepth 100000 in
set_option maxHeartbeats 60000 in
theorem c_X3_generation (l : Launch) (E : zE) (q : Nat → Nat) (nq : Nat → Nat) (sa ha : Int → Nat → Nat) (un : Int) (svd sg : Int → Int) (le : Int) (hv sv : Int → zSt) (jb jr lf jf rd vr : Int) (G : Int → zGr) (gr : Int) (pl : Int) (k : Int) (h0 : rg gr) (h1 : rg pl) (h2 : rg k) (h3 : SI G) (h4 : jr = 0 ∨ jr = 1) : zF l E yX3_generation wsX3_generation 2 48 [.ref (q 0), .int (iI gr), .int (iI pl), .int (iI k)] (wN E q nq sa ha un svd sg le hv sv jb jr lf jf rd vr G) (if ¬ (0 ≤ gr ∧ gr ≤ 5 ∧ 0 ≤ pl ∧ pl < G gr 0 2) then -1 else if k = 0 then nO (G gr 0 1 - pl) else if k = 1 then G gr 1 ((G gr 0 1 - pl) % 8) else if k = 2 then (if G gr 1 ((G gr 0 1 - pl) % 8) = -6 then 1 else 0) else if k = 3 then G gr 2 ((G gr 0 1 - pl) % 8) else if k = 4 then G gr 3 ((G gr 0 1 - pl) % 8) else if k = 5 then (if ¬ jr = 0 ∧ ¬ G gr 1 ((G gr 0 1 - pl) % 8) = -6 then nFJ (G gr 0 5) (G gr 0 6) (G gr 0 1 - pl) else -6) else -2) (wN E q nq sa ha un svd sg le hv sv jb jr lf jf rd vr G) := by
  refine zC_of (cc := cX3_generation) (maxL := 4) (by decide) rfl (Nat.le_of_ble_eq_true rfl) ?_
  intro p e s m below meth c ls A hx hb hr hts hown hlocks hml hK hA hS hP hD hl
  have hown : s.vm.findClass RX3 = some m.cls := hown
  have hl : lv_has ls 4 [(0, .ref (q 0)), (1, .int (iI gr)), (2, .int (iI pl)), (3, .int (iI k))] := hl
  have hinX3 : ∀ v ∈ u_ws RX3 TX3 6, v ∈ wsX3_generation := by decide +kernel
  have hf_12 := hts (.fieldLink RX3 12 "GenerationNames" "now" "LGenerationNames$State;") (by decide +kernel)
  refine lv_aload_n hx hb dX3_generation_0 rfl (lv_at hl 0 rfl) ?_
  refine va_get (D := E.1) (cl := vwCl) (ci := 3) (v := .ref (nq 0)) (C := RX3) (T := TX3) (N := 6) hx hb hts hinX3 hown hK hP 0 rfl rfl 0 (by decide) hf_12 (fun _ h => h) rfl dX3_generation_1 ?_
  refine lv_iload_n hx hb dX3_generation_4 rfl (lv_at hl 1 rfl) ?_
  refine lv_iload_n hx hb dX3_generation_5 rfl (lv_at hl 2 rfl) ?_
  refine lv_iload_n hx hb dX3_generation_6 rfl (lv_at hl 3 rfl) ?_
  rw [wN6] at hP hD
  refine z_callM (w0 := w6 E q nq sa ha un svd sg le) (ci := 2) (qk := 0) (As := [.int (iI gr), .int (iI pl), .int (iI k)]) (rest := []) hx hb hml hown hts hK hA hl.1 hP hD hS (c_X2_aboutGeneration l E nq jb jr lf jf rd vr G gr pl k  (by first | omega | assumption) (by first | omega | assumption) (by first | omega | assumption) (by first | omega | assumption) (by first | omega | assumption)) gX3_generation_X2_aboutGeneration rfl ndX2_aboutGeneration ⟨Nat.le_of_ble_eq_true rfl, Nat.le_of_ble_eq_true rfl⟩ rfl rfl rfl rfl rfl (Nat.le_of_ble_eq_true rfl) dX3_generation_7 ⟨Nat.le_of_ble_eq_true rfl, Nat.le_of_ble_eq_true rfl⟩ (fun x u H locs hpost hP hD hS => ?_)
  subst hpost
  have hP : va_P E.1 vwCl (wN E q nq sa ha un svd sg le hv sv jb jr lf jf rd vr G) H := by rw [wN6]; exact hP
  have hD : va_D A (wN E q nq sa ha un svd sg le hv sv jb jr lf jf rd vr G) := by rw [wN6]; exact hD
  exact z_iret hx hb hr hlocks hK hS () rfl hP hD dX3_generation_10

theorem ndX3_named : yX3_named.cls = RX3 ∧ yX3_named.cls ≠ "java/lang/invoke/MethodHandle" ∧ yX3_named.cls ≠ "java/lang/invoke/VarHandle" ∧ (parseMethodDescriptor yX3_named.desc).map (fun d => d.parameters.length) = some 2 := by decide +kernel
set_option maxRecDepth 100000 in
set_option maxHeartbeats 60000 in
theorem c_X3_named (l : Launch) (E : zE) (q : Nat → Nat) (nq : Nat → Nat) (sa ha : Int → Nat → Nat) (un : Int) (svd sg : Int → Int) (le : Int) (hv sv : Int → zSt) (jb jr lf jf rd vr : Int) (G : Int → zGr) (gr : Int) (n : Int) (h0 : rg gr) (h1 : rg n) (h2 : SI G) (h3 : jr = 0 ∨ jr = 1) : zF l E yX3_named wsX3_named 4 86 [.ref (q 0), .int (iI gr), .int (iI n)] (wN E q nq sa ha un svd sg le hv sv jb jr lf jf rd vr G) (if ¬ (0 ≤ gr ∧ gr ≤ 5) then -1 else if ¬ (-7 ≤ n ∧ n ≤ 1) then -2 else nIT (G gr 0 1) (G gr 0 2) (G gr 1) (sOf (G gr 0 1) (G gr 0 5) (G gr 0 6) n jr)) (wN E q nq sa ha un svd sg le hv sv jb jr lf jf rd vr G) := by
  refine zC_of (cc := cX3_named) (maxL := 3) (by decide) rfl (Nat.le_of_ble_eq_true rfl) ?_
  intro p e s m below meth c ls A hx hb hr hts hown hlocks hml hK hA hS hP hD hl
  have hown : s.vm.findClass RX3 = some m.cls := hown
  have hl : lv_has ls 3 [(0, .ref (q 0)), (1, .int (iI gr)), (2, .int (iI n))] := hl
  have hinX3 : ∀ v ∈ u_ws RX3 TX3 6, v ∈ wsX3_named := by decide +kernel
  have hf_12 := hts (.fieldLink RX3 12 "GenerationNames" "now" "LGenerationNames$State;") (by decide +kernel)
  refine lv_aload_n hx hb dX3_named_0 rfl (lv_at hl 0 rfl) ?_
  refine va_get (D := E.1) (cl := vwCl) (ci := 3) (v := .ref (nq 0)) (C := RX3) (T := TX3) (N := 6) hx hb hts hinX3 hown hK hP 0 rfl rfl 0 (by decide) hf_12 (fun _ h => h) rfl dX3_named_1 ?_
  refine lv_iload_n hx hb dX3_named_4 rfl (lv_at hl 1 rfl) ?_
  refine lv_iload_n hx hb dX3_named_5 rfl (lv_at hl 2 rfl) ?_
  rw [wN6] at hP hD
  refine z_callM (w0 := w6 E q nq sa ha un svd sg le) (ci := 2) (qk := 0) (As := [.int (iI gr), .int (iI n)]) (rest := []) hx hb hml hown hts hK hA hl.1 hP hD hS (c_X2_numberByName l E nq jb jr lf jf rd vr G gr n  (by first | omega | assumption) (by first | omega | assumption) (by first | omega | assumption) (by first | omega | assumption)) gX3_named_X2_numberByName rfl ndX2_numberByName ⟨Nat.le_of_ble_eq_true rfl, Nat.le_of_ble_eq_true rfl⟩ rfl rfl rfl rfl rfl (Nat.le_of_ble_eq_true rfl) dX3_named_6 ⟨Nat.le_of_ble_eq_true rfl, Nat.le_of_ble_eq_true rfl⟩ (fun x u H locs hpost hP hD hS => ?_)
  subst hpost
  have hP : va_P E.1 vwCl (wN E q nq sa ha un svd sg le hv sv jb jr lf jf rd vr G) H := by rw [wN6]; exact hP
  have hD : va_D A (wN E q nq sa ha un svd sg le hv sv jb jr lf jf rd vr G) := by rw [wN6]; exact hD
  exact z_iret hx hb hr hlocks hK hS () rfl hP hD dX3_named_9

theorem ndX3_groups : yX3_groups.cls = RX3 ∧ yX3_groups.cls ≠ "java/lang/invoke/MethodHandle" ∧ yX3_groups.cls ≠ "java/lang/invoke/VarHandle" ∧ (parseMethodDescriptor yX3_groups.desc).map (fun d => d.parameters.length) = some 1 := by decide +kernel
set_option maxRecDepth 100000 in
set_option maxHeartbeats 60000 in
theorem c_X3_groups (l : Launch) (E : zE) (q : Nat → Nat) (nq : Nat → Nat) (sa ha : Int → Nat → Nat) (un : Int) (svd sg : Int → Int) (le : Int) (hv sv : Int → zSt) (jb jr lf jf rd vr : Int) (G : Int → zGr) (k : Int) (h0 : rg k) (h1 : SI G) (h2 : jr = 0 ∨ jr = 1) : zF l E yX3_groups wsX3_groups 4 88 [.ref (q 0), .int (iI k)] (wN E q nq sa ha un svd sg le hv sv jb jr lf jf rd vr G) (if ¬ (0 ≤ k ∧ k ≤ 2) then -2 else sSet jr G k) (wN E q nq sa ha un svd sg le hv sv jb jr lf jf rd vr G) := by
  refine zC_of (cc := cX3_groups) (maxL := 2) (by decide) rfl (Nat.le_of_ble_eq_true rfl) ?_
  intro p e s m below meth c ls A hx hb hr hts hown hlocks hml hK hA hS hP hD hl
  have hown : s.vm.findClass RX3 = some m.cls := hown
  have hl : lv_has ls 2 [(0, .ref (q 0)), (1, .int (iI k))] := hl
  have hinX3 : ∀ v ∈ u_ws RX3 TX3 6, v ∈ wsX3_groups := by decide +kernel
  have hf_12 := hts (.fieldLink RX3 12 "GenerationNames" "now" "LGenerationNames$State;") (by decide +kernel)
  refine lv_aload_n hx hb dX3_groups_0 rfl (lv_at hl 0 rfl) ?_
  refine va_get (D := E.1) (cl := vwCl) (ci := 3) (v := .ref (nq 0)) (C := RX3) (T := TX3) (N := 6) hx hb hts hinX3 hown hK hP 0 rfl rfl 0 (by decide) hf_12 (fun _ h => h) rfl dX3_groups_1 ?_
  refine lv_iload_n hx hb dX3_groups_4 rfl (lv_at hl 1 rfl) ?_
  rw [wN6] at hP hD
  refine z_callM (w0 := w6 E q nq sa ha un svd sg le) (ci := 2) (qk := 0) (As := [.int (iI k)]) (rest := []) hx hb hml hown hts hK hA hl.1 hP hD hS (c_X2_groupsThatAre l E nq jb jr lf jf rd vr G k  (by first | omega | assumption) (by first | omega | assumption) (by first | omega | assumption)) gX3_groups_X2_groupsThatAre rfl ndX2_groupsThatAre ⟨Nat.le_of_ble_eq_true rfl, Nat.le_of_ble_eq_true rfl⟩ rfl rfl rfl rfl rfl (Nat.le_of_ble_eq_true rfl) dX3_groups_5 ⟨Nat.le_of_ble_eq_true rfl, Nat.le_of_ble_eq_true rfl⟩ (fun x u H locs hpost hP hD hS => ?_)
  subst hpost
  have hP : va_P E.1 vwCl (wN E q nq sa ha un svd sg le hv sv jb jr lf jf rd vr G) H := by rw [wN6]; exact hP
  have hD : va_D A (wN E q nq sa ha un svd sg le hv sv jb jr lf jf rd vr G) := by rw [wN6]; exact hD
  exact z_iret hx hb hr hlocks hK hS () rfl hP hD dX3_groups_8

theorem ndX3_rolls : yX3_rolls.cls = RX3 ∧ yX3_rolls.cls ≠ "java/lang/invoke/MethodHandle" ∧ yX3_rolls.cls ≠ "java/lang/invoke/VarHandle" ∧ (parseMethodDescriptor yX3_rolls.desc).map (fun d => d.parameters.length) = some 1 := by decide +kernel
set_option maxRecDepth 100000 in
set_option maxHeartbeats 60000 in
theorem c_X3_rolls (l : Launch) (E : zE) (q : Nat → Nat) (nq : Nat → Nat) (sa ha : Int → Nat → Nat) (un : Int) (svd sg : Int → Int) (le : Int) (hv sv : Int → zSt) (jb jr lf jf rd vr : Int) (G : Int → zGr) (gr : Int) (h0 : rg gr) (h1 : SI G) : zF l E yX3_rolls wsX3_rolls 4 85 [.ref (q 0), .int (iI gr)] (wN E q nq sa ha un svd sg le hv sv jb jr lf jf rd vr G) (if ¬ (0 ≤ gr ∧ gr ≤ 5) then -1 else if G gr 0 0 ≤ G gr 0 2 then nIT (G gr 0 1) (G gr 0 2) (G gr 1) (G gr 0 1 - G gr 0 2 + 1) else -6) (wN E q nq sa ha un svd sg le hv sv jb jr lf jf rd vr G) := by
  refine zC_of (cc := cX3_rolls) (maxL := 2) (by decide) rfl (Nat.le_of_ble_eq_true rfl) ?_
  intro p e s m below meth c ls A hx hb hr hts hown hlocks hml hK hA hS hP hD hl
  have hown : s.vm.findClass RX3 = some m.cls := hown
  have hl : lv_has ls 2 [(0, .ref (q 0)), (1, .int (iI gr))] := hl
  have hinX3 : ∀ v ∈ u_ws RX3 TX3 6, v ∈ wsX3_rolls := by decide +kernel
  have hf_12 := hts (.fieldLink RX3 12 "GenerationNames" "now" "LGenerationNames$State;") (by decide +kernel)
  refine lv_aload_n hx hb dX3_rolls_0 rfl (lv_at hl 0 rfl) ?_
  refine va_get (D := E.1) (cl := vwCl) (ci := 3) (v := .ref (nq 0)) (C := RX3) (T := TX3) (N := 6) hx hb hts hinX3 hown hK hP 0 rfl rfl 0 (by decide) hf_12 (fun _ h => h) rfl dX3_rolls_1 ?_
  refine lv_iload_n hx hb dX3_rolls_4 rfl (lv_at hl 1 rfl) ?_
  rw [wN6] at hP hD
  refine z_callM (w0 := w6 E q nq sa ha un svd sg le) (ci := 2) (qk := 0) (As := [.int (iI gr)]) (rest := []) hx hb hml hown hts hK hA hl.1 hP hD hS (c_X2_numberThatRolls l E nq jb jr lf jf rd vr G gr  (by first | omega | assumption) (by first | omega | assumption)) gX3_rolls_X2_numberThatRolls rfl ndX2_numberThatRolls ⟨Nat.le_of_ble_eq_true rfl, Nat.le_of_ble_eq_true rfl⟩ rfl rfl rfl rfl rfl (Nat.le_of_ble_eq_true rfl) dX3_rolls_5 ⟨Nat.le_of_ble_eq_true rfl, Nat.le_of_ble_eq_true rfl⟩ (fun x u H locs hpost hP hD hS => ?_)
  subst hpost
  have hP : va_P E.1 vwCl (wN E q nq sa ha un svd sg le hv sv jb jr lf jf rd vr G) H := by rw [wN6]; exact hP
  have hD : va_D A (wN E q nq sa ha un svd sg le hv sv jb jr lf jf rd vr G) := by rw [wN6]; exact hD
  exact z_iret hx hb hr hlocks hK hS () rfl hP hD dX3_rolls_8

theorem ndX3_ifFailed : yX3_ifFailed.cls = RX3 ∧ yX3_ifFailed.cls ≠ "java/lang/invoke/MethodHandle" ∧ yX3_ifFailed.cls ≠ "java/lang/invoke/VarHandle" ∧ (parseMethodDescriptor yX3_ifFailed.desc).map (fun d => d.parameters.length) = some 1 := by decide +kernel
set_option maxRecDepth 100000 in
set_option maxHeartbeats 60000 in
theorem c_X3_ifFailed (l : Launch) (E : zE) (q : Nat → Nat) (nq : Nat → Nat) (sa ha : Int → Nat → Nat) (un : Int) (svd sg : Int → Int) (le : Int) (hv sv : Int → zSt) (jb jr lf jf rd vr : Int) (G : Int → zGr) (gr : Int) (h0 : rg gr) (h1 : SI G) (h2 : jr = 0 ∨ jr = 1) : zF l E yX3_ifFailed wsX3_ifFailed 4 85 [.ref (q 0), .int (iI gr)] (wN E q nq sa ha un svd sg le hv sv jb jr lf jf rd vr G) (if ¬ (0 ≤ gr ∧ gr ≤ 5) then -1 else if ¬ jr = 0 ∧ ¬ G gr 0 6 = 0 then -6 else nIT (G gr 0 1) (G gr 0 2) (G gr 1) (G gr 0 1)) (wN E q nq sa ha un svd sg le hv sv jb jr lf jf rd vr G) := by
  refine zC_of (cc := cX3_ifFailed) (maxL := 2) (by decide) rfl (Nat.le_of_ble_eq_true rfl) ?_
  intro p e s m below meth c ls A hx hb hr hts hown hlocks hml hK hA hS hP hD hl
  have hown : s.vm.findClass RX3 = some m.cls := hown
  have hl : lv_has ls 2 [(0, .ref (q 0)), (1, .int (iI gr))] := hl
  have hinX3 : ∀ v ∈ u_ws RX3 TX3 6, v ∈ wsX3_ifFailed := by decide +kernel
  have hf_12 := hts (.fieldLink RX3 12 "GenerationNames" "now" "LGenerationNames$State;") (by decide +kernel)
  refine lv_aload_n hx hb dX3_ifFailed_0 rfl (lv_at hl 0 rfl) ?_
  refine va_get (D := E.1) (cl := vwCl) (ci := 3) (v := .ref (nq 0)) (C := RX3) (T := TX3) (N := 6) hx hb hts hinX3 hown hK hP 0 rfl rfl 0 (by decide) hf_12 (fun _ h => h) rfl dX3_ifFailed_1 ?_
  refine lv_iload_n hx hb dX3_ifFailed_4 rfl (lv_at hl 1 rfl) ?_
  rw [wN6] at hP hD
  refine z_callM (w0 := w6 E q nq sa ha un svd sg le) (ci := 2) (qk := 0) (As := [.int (iI gr)]) (rest := []) hx hb hml hown hts hK hA hl.1 hP hD hS (c_X2_newestIfFailed l E nq jb jr lf jf rd vr G gr  (by first | omega | assumption) (by first | omega | assumption) (by first | omega | assumption)) gX3_ifFailed_X2_newestIfFailed rfl ndX2_newestIfFailed ⟨Nat.le_of_ble_eq_true rfl, Nat.le_of_ble_eq_true rfl⟩ rfl rfl rfl rfl rfl (Nat.le_of_ble_eq_true rfl) dX3_ifFailed_5 ⟨Nat.le_of_ble_eq_true rfl, Nat.le_of_ble_eq_true rfl⟩ (fun x u H locs hpost hP hD hS => ?_)
  subst hpost
  have hP : va_P E.1 vwCl (wN E q nq sa ha un svd sg le hv sv jb jr lf jf rd vr G) H := by rw [wN6]; exact hP
  have hD : va_D A (wN E q nq sa ha un svd sg le hv sv jb jr lf jf rd vr G) := by rw [wN6]; exact hD
  exact z_iret hx hb hr hlocks hK hS () rfl hP hD dX3_ifFailed_8

theorem ndX3_leastKeep : yX3_leastKeep.cls = RX3 ∧ yX3_leastKeep.cls ≠ "java/lang/invoke/MethodHandle" ∧ yX3_leastKeep.cls ≠ "java/lang/invoke/VarHandle" ∧ (parseMethodDescriptor yX3_leastKeep.desc).map (fun d => d.parameters.length) = some 1 := by decide +kernel
set_option maxRecDepth 100000 in
set_option maxHeartbeats 60000 in
theorem c_X3_leastKeep (l : Launch) (E : zE) (q : Nat → Nat) (nq : Nat → Nat) (sa ha : Int → Nat → Nat) (un : Int) (svd sg : Int → Int) (le : Int) (hv sv : Int → zSt) (jb jr lf jf rd vr : Int) (G : Int → zGr) (gr : Int) (h0 : rg gr) (h1 : SI G) : zF l E yX3_leastKeep wsX3_leastKeep 2 51 [.ref (q 0), .int (iI gr)] (wN E q nq sa ha un svd sg le hv sv jb jr lf jf rd vr G) (if ¬ (0 ≤ gr ∧ gr ≤ 5) then -1 else if 1 < G gr 0 2 then G gr 0 2 else 1) (wN E q nq sa ha un svd sg le hv sv jb jr lf jf rd vr G) := by
  refine zC_of (cc := cX3_leastKeep) (maxL := 2) (by decide) rfl (Nat.le_of_ble_eq_true rfl) ?_
  intro p e s m below meth c ls A hx hb hr hts hown hlocks hml hK hA hS hP hD hl
  have hown : s.vm.findClass RX3 = some m.cls := hown
  have hl : lv_has ls 2 [(0, .ref (q 0)), (1, .int (iI gr))] := hl
  have hinX3 : ∀ v ∈ u_ws RX3 TX3 6, v ∈ wsX3_leastKeep := by decide +kernel
  have hf_12 := hts (.fieldLink RX3 12 "GenerationNames" "now" "LGenerationNames$State;") (by decide +kernel)
  refine lv_aload_n hx hb dX3_leastKeep_0 rfl (lv_at hl 0 rfl) ?_
  refine va_get (D := E.1) (cl := vwCl) (ci := 3) (v := .ref (nq 0)) (C := RX3) (T := TX3) (N := 6) hx hb hts hinX3 hown hK hP 0 rfl rfl 0 (by decide) hf_12 (fun _ h => h) rfl dX3_leastKeep_1 ?_
  refine lv_iload_n hx hb dX3_leastKeep_4 rfl (lv_at hl 1 rfl) ?_
  rw [wN6] at hP hD
  refine z_callM (w0 := w6 E q nq sa ha un svd sg le) (ci := 2) (qk := 0) (As := [.int (iI gr)]) (rest := []) hx hb hml hown hts hK hA hl.1 hP hD hS (c_X2_leastKeepOf l E nq jb jr lf jf rd vr G gr  (by first | omega | assumption) (by first | omega | assumption)) gX3_leastKeep_X2_leastKeepOf rfl ndX2_leastKeepOf ⟨Nat.le_of_ble_eq_true rfl, Nat.le_of_ble_eq_true rfl⟩ rfl rfl rfl rfl rfl (Nat.le_of_ble_eq_true rfl) dX3_leastKeep_5 ⟨Nat.le_of_ble_eq_true rfl, Nat.le_of_ble_eq_true rfl⟩ (fun x u H locs hpost hP hD hS => ?_)
  subst hpost
  have hP : va_P E.1 vwCl (wN E q nq sa ha un svd sg le hv sv jb jr lf jf rd vr G) H := by rw [wN6]; exact hP
  have hD : va_D A (wN E q nq sa ha un svd sg le hv sv jb jr lf jf rd vr G) := by rw [wN6]; exact hD
  exact z_iret hx hb hr hlocks hK hS () rfl hP hD dX3_leastKeep_8

theorem ndX3_count : yX3_count.cls = RX3 ∧ yX3_count.cls ≠ "java/lang/invoke/MethodHandle" ∧ yX3_count.cls ≠ "java/lang/invoke/VarHandle" ∧ (parseMethodDescriptor yX3_count.desc).map (fun d => d.parameters.length) = some 1 := by decide +kernel
set_option maxRecDepth 100000 in
set_option maxHeartbeats 60000 in
theorem c_X3_count (l : Launch) (E : zE) (q : Nat → Nat) (nq : Nat → Nat) (sa ha : Int → Nat → Nat) (un : Int) (svd sg : Int → Int) (le : Int) (hv sv : Int → zSt) (jb jr lf jf rd vr : Int) (G : Int → zGr) (k : Int) (h0 : rg k) (h1 : SI G) (h2 : jr = 0 ∨ jr = 1) : zF l E yX3_count wsX3_count 4 86 [.ref (q 0), .int (iI k)] (wN E q nq sa ha un svd sg le hv sv jb jr lf jf rd vr G) (if k = 8 then le else if k = 9 then un else if k = 0 then jb else if k = 1 then (if jr = 0 then 0 else 1) else if k = 2 then jf else if k = 3 then sCT G else if k = 4 then sCH G else if k = 5 then rd else if k = 6 then vr else if k = 7 then sMd jr G else -2) (wN E q nq sa ha un svd sg le hv sv jb jr lf jf rd vr G) := by
  refine zC_of (cc := cX3_count) (maxL := 2) (by decide) rfl (Nat.le_of_ble_eq_true rfl) ?_
  intro p e s m below meth c ls A hx hb hr hts hown hlocks hml hK hA hS hP hD hl
  have hown : s.vm.findClass RX3 = some m.cls := hown
  have hl : lv_has ls 2 [(0, .ref (q 0)), (1, .int (iI k))] := hl
  have hinX3 : ∀ v ∈ u_ws RX3 TX3 6, v ∈ wsX3_count := by decide +kernel
  have hf_12 := hts (.fieldLink RX3 12 "GenerationNames" "now" "LGenerationNames$State;") (by decide +kernel)
  have hf_20 := hts (.fieldLink RX3 20 "GenerationNames" "undoable" "I") (by decide +kernel)
  have hf_34 := hts (.fieldLink RX3 34 "GenerationNames" "pad" "LGenerationNames$Pad;") (by decide +kernel)
  refine lv_iload_n hx hb dX3_count_0 rfl (lv_at hl 1 rfl) ?_
  refine lv_bipush (v := iI 8) hx hb dX3_count_1 (by decide) ?_
  refine z_icmp_ne (tgt := 14) hx hb dX3_count_3 (by decide) ⟨by omega, by omega⟩ ⟨by omega, by omega⟩ (fun c_3 => ?_) (fun c_3 => ?_)
  · refine lv_iload_n hx hb dX3_count_14 rfl (lv_at hl 1 rfl) ?_
    refine lv_bipush (v := iI 9) hx hb dX3_count_15 (by decide) ?_
    refine z_icmp_ne (tgt := 25) hx hb dX3_count_17 (by decide) ⟨by omega, by omega⟩ ⟨by omega, by omega⟩ (fun c_17 => ?_) (fun c_17 => ?_)
    · refine lv_aload_n hx hb dX3_count_25 rfl (lv_at hl 0 rfl) ?_
      refine va_get (D := E.1) (cl := vwCl) (ci := 3) (v := .ref (nq 0)) (C := RX3) (T := TX3) (N := 6) hx hb hts hinX3 hown hK hP 0 rfl rfl 0 (by decide) hf_12 (fun _ h => h) rfl dX3_count_26 ?_
      refine lv_iload_n hx hb dX3_count_29 rfl (lv_at hl 1 rfl) ?_
      rw [wN6] at hP hD
      refine z_callM (w0 := w6 E q nq sa ha un svd sg le) (ci := 2) (qk := 0) (As := [.int (iI k)]) (rest := []) hx hb hml hown hts hK hA hl.1 hP hD hS (c_X2_counted l E nq jb jr lf jf rd vr G k  (by first | omega | assumption) (by first | omega | assumption) (by first | omega | assumption)) gX3_count_X2_counted rfl ndX2_counted ⟨Nat.le_of_ble_eq_true rfl, Nat.le_of_ble_eq_true rfl⟩ rfl rfl rfl rfl rfl (Nat.le_of_ble_eq_true rfl) dX3_count_30 ⟨Nat.le_of_ble_eq_true rfl, Nat.le_of_ble_eq_true rfl⟩ (fun x u H locs hpost hP hD hS => ?_)
      subst hpost
      have hP : va_P E.1 vwCl (wN E q nq sa ha un svd sg le hv sv jb jr lf jf rd vr G) H := by rw [wN6]; exact hP
      have hD : va_D A (wN E q nq sa ha un svd sg le hv sv jb jr lf jf rd vr G) := by rw [wN6]; exact hD
      exact z_iret hx hb hr hlocks hK hS () (by first | (rw [if_pos (by omega)]) | (rw [if_neg (by omega), if_pos (by omega)]) | (rw [if_neg (show ¬ k = 8 by omega), if_neg (show ¬ k = 9 by omega)])) hP hD dX3_count_33
    · refine lv_aload_n hx hb dX3_count_20 rfl (lv_at hl 0 rfl) ?_
      refine va_get (D := E.1) (cl := vwCl) (ci := 3) (v := .int (iI un)) (C := RX3) (T := TX3) (N := 6) hx hb hts hinX3 hown hK hP 0 rfl rfl 2 (by decide) hf_20 (fun _ h => h) rfl dX3_count_21 ?_
      exact z_iret hx hb hr hlocks hK hS () (by first | (rw [if_pos (by omega)]) | (rw [if_neg (by omega), if_pos (by omega)]) | (rw [if_neg (show ¬ k = 8 by omega), if_neg (show ¬ k = 9 by omega)])) hP hD dX3_count_24
  · refine lv_aload_n hx hb dX3_count_6 rfl (lv_at hl 0 rfl) ?_
    refine va_get (D := E.1) (cl := vwCl) (ci := 3) (v := .ref (q 4)) (C := RX3) (T := TX3) (N := 6) hx hb hts hinX3 hown hK hP 0 rfl rfl 5 (by decide) hf_34 (fun _ h => h) rfl dX3_count_7 ?_
    refine z_callM (w0 := wK4 E q nq (har ha) sa un svd) (ci := 1) (qk := 0) (As := []) (rest := []) hx hb hml hown hts hK hA hl.1 hP hD hS (c_X1_size l E (pq q) sg le   ) gX3_count_X1_size rfl ndX1_size ⟨Nat.le_of_ble_eq_true rfl, Nat.le_of_ble_eq_true rfl⟩ rfl rfl rfl rfl rfl (Nat.le_of_ble_eq_true rfl) dX3_count_10 ⟨Nat.le_of_ble_eq_true rfl, Nat.le_of_ble_eq_true rfl⟩ (fun x u H locs hpost hP hD hS => ?_)
    rw [hpost]
    have hP : va_P E.1 vwCl (wN E q nq sa ha un svd sg le hv sv jb jr lf jf rd vr G) H := hP
    have hD : va_D A (wN E q nq sa ha un svd sg le hv sv jb jr lf jf rd vr G) := hD
    exact z_iret hx hb hr hlocks hK hS () (by first | (rw [if_pos (by omega)]) | (rw [if_neg (by omega), if_pos (by omega)]) | (rw [if_neg (show ¬ k = 8 by omega), if_neg (show ¬ k = 9 by omega)])) hP hD dX3_count_13

theorem ndX3_wipe : yX3_wipe.cls = RX3 ∧ yX3_wipe.cls ≠ "java/lang/invoke/MethodHandle" ∧ yX3_wipe.cls ≠ "java/lang/invoke/VarHandle" ∧ (parseMethodDescriptor yX3_wipe.desc).map (fun d => d.parameters.length) = some 0 := by decide +kernel
set_option maxRecDepth 100000 in
set_option maxHeartbeats 60000 in
theorem c_X3_wipe (l : Launch) (E : zE) (q : Nat → Nat) (nq : Nat → Nat) (sa ha : Int → Nat → Nat) (un : Int) (svd sg : Int → Int) (le : Int) (hv sv : Int → zSt) (jb jr lf jf rd vr : Int) (G : Int → zGr) : zF l E yX3_wipe wsX3_wipe 1 21 [.ref (q 0)] (wN E q nq sa ha un svd sg le hv sv jb jr lf jf rd vr G) le (wN E q nq sa ha un svd sg 0 hv sv jb jr lf jf rd vr G) := by
  refine zC_of (cc := cX3_wipe) (maxL := 1) (by decide) rfl (Nat.le_of_ble_eq_true rfl) ?_
  intro p e s m below meth c ls A hx hb hr hts hown hlocks hml hK hA hS hP hD hl
  have hown : s.vm.findClass RX3 = some m.cls := hown
  have hl : lv_has ls 1 [(0, .ref (q 0))] := hl
  have hinX3 : ∀ v ∈ u_ws RX3 TX3 6, v ∈ wsX3_wipe := by decide +kernel
  have hf_34 := hts (.fieldLink RX3 34 "GenerationNames" "pad" "LGenerationNames$Pad;") (by decide +kernel)
  refine lv_aload_n hx hb dX3_wipe_0 rfl (lv_at hl 0 rfl) ?_
  refine va_get (D := E.1) (cl := vwCl) (ci := 3) (v := .ref (q 4)) (C := RX3) (T := TX3) (N := 6) hx hb hts hinX3 hown hK hP 0 rfl rfl 5 (by decide) hf_34 (fun _ h => h) rfl dX3_wipe_1 ?_
  refine z_callM (w0 := wK4 E q nq (har ha) sa un svd) (ci := 1) (qk := 0) (As := []) (rest := []) hx hb hml hown hts hK hA hl.1 hP hD hS (c_X1_empty l E (pq q) sg le   ) gX3_wipe_X1_empty rfl ndX1_empty ⟨Nat.le_of_ble_eq_true rfl, Nat.le_of_ble_eq_true rfl⟩ rfl rfl rfl rfl rfl (Nat.le_of_ble_eq_true rfl) dX3_wipe_4 ⟨Nat.le_of_ble_eq_true rfl, Nat.le_of_ble_eq_true rfl⟩ (fun x u H locs hpost hP hD hS => ?_)
  rw [hpost]
  have hP : va_P E.1 vwCl (wN E q nq sa ha un svd sg 0 hv sv jb jr lf jf rd vr G) H := hP
  have hD : va_D A (wN E q nq sa ha un svd sg 0 hv sv jb jr lf jf rd vr G) := hD
  exact z_iret hx hb hr hlocks hK hS () rfl hP hD dX3_wipe_7

theorem ndX3_fault : yX3_fault.cls = RX3 ∧ yX3_fault.cls ≠ "java/lang/invoke/MethodHandle" ∧ yX3_fault.cls ≠ "java/lang/invoke/VarHandle" ∧ (parseMethodDescriptor yX3_fault.desc).map (fun d => d.parameters.length) = some 0 := by decide +kernel
set_option maxRecDepth 100000 in
set_option maxHeartbeats 60000 in
theorem c_X3_fault (l : Launch) (E : zE) (q : Nat → Nat) (nq : Nat → Nat) (sa ha : Int → Nat → Nat) (un : Int) (svd sg : Int → Int) (le : Int) (hv sv : Int → zSt) (jb jr lf jf rd vr : Int) (G : Int → zGr) (h0 : PD sg le) (h1 : 0 ≤ le ∧ le ≤ 80) : zF l E yX3_fault wsX3_fault 3 67 [.ref (q 0)] (wN E q nq sa ha un svd sg le hv sv jb jr lf jf rd vr G) (cF sg le) (wN E q nq sa ha un svd sg le hv sv jb jr lf jf rd vr G) := by
  refine zC_of (cc := cX3_fault) (maxL := 1) (by decide) rfl (Nat.le_of_ble_eq_true rfl) ?_
  intro p e s m below meth c ls A hx hb hr hts hown hlocks hml hK hA hS hP hD hl
  have hown : s.vm.findClass RX3 = some m.cls := hown
  have hl : lv_has ls 1 [(0, .ref (q 0))] := hl
  have hinX3 : ∀ v ∈ u_ws RX3 TX3 6, v ∈ wsX3_fault := by decide +kernel
  have hf_34 := hts (.fieldLink RX3 34 "GenerationNames" "pad" "LGenerationNames$Pad;") (by decide +kernel)
  refine lv_aload_n hx hb dX3_fault_0 rfl (lv_at hl 0 rfl) ?_
  refine va_get (D := E.1) (cl := vwCl) (ci := 3) (v := .ref (q 4)) (C := RX3) (T := TX3) (N := 6) hx hb hts hinX3 hown hK hP 0 rfl rfl 5 (by decide) hf_34 (fun _ h => h) rfl dX3_fault_1 ?_
  refine z_callM (w0 := wK4 E q nq (har ha) sa un svd) (ci := 1) (qk := 0) (As := []) (rest := []) hx hb hml hown hts hK hA hl.1 hP hD hS (c_X1_findFault l E (pq q) sg le   (by first | omega | assumption) (by first | omega | assumption)) gX3_fault_X1_findFault rfl ndX1_findFault ⟨Nat.le_of_ble_eq_true rfl, Nat.le_of_ble_eq_true rfl⟩ rfl rfl rfl rfl rfl (Nat.le_of_ble_eq_true rfl) dX3_fault_4 ⟨Nat.le_of_ble_eq_true rfl, Nat.le_of_ble_eq_true rfl⟩ (fun x u H locs hpost hP hD hS => ?_)
  subst hpost
  have hP : va_P E.1 vwCl (wN E q nq sa ha un svd sg le hv sv jb jr lf jf rd vr G) H := hP
  have hD : va_D A (wN E q nq sa ha un svd sg le hv sv jb jr lf jf rd vr G) := hD
  exact z_iret hx hb hr hlocks hK hS () rfl hP hD dX3_fault_7

theorem ndX3_undo : yX3_undo.cls = RX3 ∧ yX3_undo.cls ≠ "java/lang/invoke/MethodHandle" ∧ yX3_undo.cls ≠ "java/lang/invoke/VarHandle" ∧ (parseMethodDescriptor yX3_undo.desc).map (fun d => d.parameters.length) = some 0 := by decide +kernel
set_option maxRecDepth 100000 in
set_option maxHeartbeats 60000 in
theorem c_X3_undo (l : Launch) (E : zE) (q : Nat → Nat) (nq : Nat → Nat) (sa ha : Int → Nat → Nat) (un : Int) (svd sg : Int → Int) (le : Int) (hv sv : Int → zSt) (jb jr lf jf rd vr : Int) (G : Int → zGr) (h0 : 0 ≤ un ∧ un ≤ 6) (h1 : okH hv) : zF l E yX3_undo wsX3_undo 3 150 [.ref (q 0)] (wN E q nq sa ha un svd sg le hv sv jb jr lf jf rd vr G) (if un < 1 then -5 else un - 1) (wN E q nq sa ha (if un < 1 then un else un - 1) svd sg le hv sv (if un < 1 then jb else (hv (un - 1)).1 0) (if un < 1 then jr else (hv (un - 1)).1 1) (if un < 1 then lf else (hv (un - 1)).1 2) (if un < 1 then jf else (hv (un - 1)).1 3) (if un < 1 then rd else (hv (un - 1)).1 4) (if un < 1 then vr else (hv (un - 1)).1 5) (if un < 1 then G else sCp G (hv (un - 1)).2)) := by
  refine zC_of (cc := cX3_undo) (maxL := 1) (by decide) rfl (Nat.le_of_ble_eq_true rfl) ?_
  intro p e s m below meth c ls A hx hb hr hts hown hlocks hml hK hA hS hP hD hl
  have hown : s.vm.findClass RX3 = some m.cls := hown
  have hl : lv_has ls 1 [(0, .ref (q 0))] := hl
  have hinX3 : ∀ v ∈ u_ws RX3 TX3 6, v ∈ wsX3_undo := by decide +kernel
  have hf_20 := hts (.fieldLink RX3 20 "GenerationNames" "undoable" "I") (by decide +kernel)
  have hf_12 := hts (.fieldLink RX3 12 "GenerationNames" "now" "LGenerationNames$State;") (by decide +kernel)
  have hf_16 := hts (.fieldLink RX3 16 "GenerationNames" "history" "[LGenerationNames$State;") (by decide +kernel)
  refine lv_aload_n hx hb dX3_undo_0 rfl (lv_at hl 0 rfl) ?_
  refine va_get (D := E.1) (cl := vwCl) (ci := 3) (v := .int (iI un)) (C := RX3) (T := TX3) (N := 6) hx hb hts hinX3 hown hK hP 0 rfl rfl 2 (by decide) hf_20 (fun _ h => h) rfl dX3_undo_1 ?_
  refine lv_iconst (v := iI 1) hx hb dX3_undo_4 (by decide) ?_
  refine z_icmp_ge (tgt := 11) hx hb dX3_undo_5 (by decide) ⟨by omega, by omega⟩ ⟨by omega, by omega⟩ (fun c_5 => ?_) (fun c_5 => ?_)
  · refine lv_aload_n hx hb dX3_undo_11 rfl (lv_at hl 0 rfl) ?_
    refine lv_dup hx hb dX3_undo_12 rfl ?_
    refine va_get (D := E.1) (cl := vwCl) (ci := 3) (v := .int (iI un)) (C := RX3) (T := TX3) (N := 6) hx hb hts hinX3 hown hK hP 0 rfl rfl 2 (by decide) hf_20 (fun _ h => h) rfl dX3_undo_13 ?_
    refine lv_iconst (v := iI 1) hx hb dX3_undo_16 (by decide) ?_
    refine z_isub hx hb dX3_undo_17 ?_
    refine va_put (D := E.1) (cl := vwCl) (ci := 3) (v := .int (iI (un - 1))) (ty := .int) (C := RX3) (T := TX3) (N := 6) hx hb hts hinX3 tyX3 tyX3_ok nmX3 hown hK hP hD hS 0 rfl rfl 2 (by decide) hf_20 (fun _ h => h) rfl (by decide +kernel) (rfl) (rfl) (Nat.le_of_ble_eq_true rfl) dX3_undo_18 (fun H locs hP hD hS => ?_)
    have hP : va_P E.1 vwCl (wN E q nq sa ha (un - 1) svd sg le hv sv jb jr lf jf rd vr G) H := hP
    have hD : va_D A (wN E q nq sa ha (un - 1) svd sg le hv sv jb jr lf jf rd vr G) := hD
    refine lv_aload_n hx hb dX3_undo_21 rfl (lv_at hl 0 rfl) ?_
    refine va_get (D := E.1) (cl := vwCl) (ci := 3) (v := .ref (nq 0)) (C := RX3) (T := TX3) (N := 6) hx hb hts hinX3 hown hK hP 0 rfl rfl 0 (by decide) hf_12 (fun _ h => h) rfl dX3_undo_22 ?_
    refine lv_aload_n hx hb dX3_undo_25 rfl (lv_at hl 0 rfl) ?_
    refine va_get (D := E.1) (cl := vwCl) (ci := 3) (v := .ref (q 1)) (C := RX3) (T := TX3) (N := 6) hx hb hts hinX3 hown hK hP 0 rfl rfl 1 (by decide) hf_16 (fun _ h => h) rfl dX3_undo_26 ?_
    refine lv_aload_n hx hb dX3_undo_29 rfl (lv_at hl 0 rfl) ?_
    refine va_get (D := E.1) (cl := vwCl) (ci := 3) (v := .int (iI (un - 1))) (C := RX3) (T := TX3) (N := 6) hx hb hts hinX3 hown hK hP 0 rfl rfl 2 (by decide) hf_20 (fun _ h => h) rfl dX3_undo_30 ?_
    refine z_aald (D := E.1) (cl := vwCl) (tys := zT E) (f := har ha) hx hb hK hP 1 4 rfl rfl (by omega) (by omega) (by omega) dX3_undo_33 ?_
    rw [har_at (by omega)]
    refine z_cp (own := RX3) (rest := []) (q := nq) (q2 := ha (un - 1)) hx hb hml hown hts hK hA hl.1 hP hD hS gX3_undo_X2_copyFrom ⟨Nat.le_of_ble_eq_true rfl, Nat.le_of_ble_eq_true rfl⟩ ((h1 (un - 1) (by omega) (by omega)).2.1) ((h1 (un - 1) (by omega) (by omega)).2.2) (cpU1 (by omega)) (cpU2 (by omega)) rfl (Nat.le_of_ble_eq_true rfl) dX3_undo_34 ⟨Nat.le_of_ble_eq_true rfl, Nat.le_of_ble_eq_true rfl⟩ (fun H locs hP hD hS => ?_)
    have hP : va_P E.1 vwCl (wN E q nq sa ha (un - 1) svd sg le hv sv ((hv (un - 1)).1 0) ((hv (un - 1)).1 1) ((hv (un - 1)).1 2) ((hv (un - 1)).1 3) ((hv (un - 1)).1 4) ((hv (un - 1)).1 5) (sCp G (hv (un - 1)).2)) H := hP
    have hD : va_D A (wN E q nq sa ha (un - 1) svd sg le hv sv ((hv (un - 1)).1 0) ((hv (un - 1)).1 1) ((hv (un - 1)).1 2) ((hv (un - 1)).1 3) ((hv (un - 1)).1 4) ((hv (un - 1)).1 5) (sCp G (hv (un - 1)).2)) := hD
    refine lv_aload_n hx hb dX3_undo_37 rfl (lv_at hl 0 rfl) ?_
    refine va_get (D := E.1) (cl := vwCl) (ci := 3) (v := .int (iI (un - 1))) (C := RX3) (T := TX3) (N := 6) hx hb hts hinX3 hown hK hP 0 rfl rfl 2 (by decide) hf_20 (fun _ h => h) rfl dX3_undo_38 ?_
    have eqc_un : (if un < 1 then un else un - 1) = (un - 1) := by (first | rw [if_pos (by omega)] | rw [if_neg (by omega)])
    have eqc_jb : (if un < 1 then jb else (hv (un - 1)).1 0) = ((hv (un - 1)).1 0) := by (first | rw [if_pos (by omega)] | rw [if_neg (by omega)])
    have eqc_jr : (if un < 1 then jr else (hv (un - 1)).1 1) = ((hv (un - 1)).1 1) := by (first | rw [if_pos (by omega)] | rw [if_neg (by omega)])
    have eqc_lf : (if un < 1 then lf else (hv (un - 1)).1 2) = ((hv (un - 1)).1 2) := by (first | rw [if_pos (by omega)] | rw [if_neg (by omega)])
    have eqc_jf : (if un < 1 then jf else (hv (un - 1)).1 3) = ((hv (un - 1)).1 3) := by (first | rw [if_pos (by omega)] | rw [if_neg (by omega)])
    have eqc_rd : (if un < 1 then rd else (hv (un - 1)).1 4) = ((hv (un - 1)).1 4) := by (first | rw [if_pos (by omega)] | rw [if_neg (by omega)])
    have eqc_vr : (if un < 1 then vr else (hv (un - 1)).1 5) = ((hv (un - 1)).1 5) := by (first | rw [if_pos (by omega)] | rw [if_neg (by omega)])
    have eqc_G : (if un < 1 then G else sCp G (hv (un - 1)).2) = (sCp G (hv (un - 1)).2) := by (first | rw [if_pos (by omega)] | rw [if_neg (by omega)])
    have hP : va_P E.1 vwCl (wN E q nq sa ha (if un < 1 then un else un - 1) svd sg le hv sv (if un < 1 then jb else (hv (un - 1)).1 0) (if un < 1 then jr else (hv (un - 1)).1 1) (if un < 1 then lf else (hv (un - 1)).1 2) (if un < 1 then jf else (hv (un - 1)).1 3) (if un < 1 then rd else (hv (un - 1)).1 4) (if un < 1 then vr else (hv (un - 1)).1 5) (if un < 1 then G else sCp G (hv (un - 1)).2)) H := by rw [eqc_un, eqc_jb, eqc_jr, eqc_lf, eqc_jf, eqc_rd, eqc_vr, eqc_G]; exact hP
    have hD : va_D A (wN E q nq sa ha (if un < 1 then un else un - 1) svd sg le hv sv (if un < 1 then jb else (hv (un - 1)).1 0) (if un < 1 then jr else (hv (un - 1)).1 1) (if un < 1 then lf else (hv (un - 1)).1 2) (if un < 1 then jf else (hv (un - 1)).1 3) (if un < 1 then rd else (hv (un - 1)).1 4) (if un < 1 then vr else (hv (un - 1)).1 5) (if un < 1 then G else sCp G (hv (un - 1)).2)) := by rw [eqc_un, eqc_jb, eqc_jr, eqc_lf, eqc_jf, eqc_rd, eqc_vr, eqc_G]; exact hD
    exact z_iret hx hb hr hlocks hK hS () (by (repeat (first | with_reducible rfl | rw [if_pos (by omega)] | rw [if_neg (by omega)]))) hP hD dX3_undo_41
  · refine lv_bipush (v := iI (-5)) hx hb dX3_undo_8 (by decide) ?_
    have eqc_un : (if un < 1 then un else un - 1) = un := by (first | rw [if_pos (by omega)] | rw [if_neg (by omega)])
    have eqc_jb : (if un < 1 then jb else (hv (un - 1)).1 0) = jb := by (first | rw [if_pos (by omega)] | rw [if_neg (by omega)])
    have eqc_jr : (if un < 1 then jr else (hv (un - 1)).1 1) = jr := by (first | rw [if_pos (by omega)] | rw [if_neg (by omega)])
    have eqc_lf : (if un < 1 then lf else (hv (un - 1)).1 2) = lf := by (first | rw [if_pos (by omega)] | rw [if_neg (by omega)])
    have eqc_jf : (if un < 1 then jf else (hv (un - 1)).1 3) = jf := by (first | rw [if_pos (by omega)] | rw [if_neg (by omega)])
    have eqc_rd : (if un < 1 then rd else (hv (un - 1)).1 4) = rd := by (first | rw [if_pos (by omega)] | rw [if_neg (by omega)])
    have eqc_vr : (if un < 1 then vr else (hv (un - 1)).1 5) = vr := by (first | rw [if_pos (by omega)] | rw [if_neg (by omega)])
    have eqc_G : (if un < 1 then G else sCp G (hv (un - 1)).2) = G := by (first | rw [if_pos (by omega)] | rw [if_neg (by omega)])
    have hP : va_P E.1 vwCl (wN E q nq sa ha (if un < 1 then un else un - 1) svd sg le hv sv (if un < 1 then jb else (hv (un - 1)).1 0) (if un < 1 then jr else (hv (un - 1)).1 1) (if un < 1 then lf else (hv (un - 1)).1 2) (if un < 1 then jf else (hv (un - 1)).1 3) (if un < 1 then rd else (hv (un - 1)).1 4) (if un < 1 then vr else (hv (un - 1)).1 5) (if un < 1 then G else sCp G (hv (un - 1)).2)) s.heap := by rw [eqc_un, eqc_jb, eqc_jr, eqc_lf, eqc_jf, eqc_rd, eqc_vr, eqc_G]; exact hP
    have hD : va_D A (wN E q nq sa ha (if un < 1 then un else un - 1) svd sg le hv sv (if un < 1 then jb else (hv (un - 1)).1 0) (if un < 1 then jr else (hv (un - 1)).1 1) (if un < 1 then lf else (hv (un - 1)).1 2) (if un < 1 then jf else (hv (un - 1)).1 3) (if un < 1 then rd else (hv (un - 1)).1 4) (if un < 1 then vr else (hv (un - 1)).1 5) (if un < 1 then G else sCp G (hv (un - 1)).2)) := by rw [eqc_un, eqc_jb, eqc_jr, eqc_lf, eqc_jf, eqc_rd, eqc_vr, eqc_G]; exact hD
    exact z_iret hx hb hr hlocks hK hS () (by (repeat (first | with_reducible rfl | rw [if_pos (by omega)] | rw [if_neg (by omega)]))) hP hD dX3_undo_10

theorem ndX3_save : yX3_save.cls = RX3 ∧ yX3_save.cls ≠ "java/lang/invoke/MethodHandle" ∧ yX3_save.cls ≠ "java/lang/invoke/VarHandle" ∧ (parseMethodDescriptor yX3_save.desc).map (fun d => d.parameters.length) = some 1 := by decide +kernel
set_option maxRecDepth 100000 in
set_option maxHeartbeats 60000 in
theorem c_X3_save (l : Launch) (E : zE) (q : Nat → Nat) (nq : Nat → Nat) (sa ha : Int → Nat → Nat) (un : Int) (svd sg : Int → Int) (le : Int) (hv sv : Int → zSt) (jb jr lf jf rd vr : Int) (G : Int → zGr) (sn : Int) (h0 : rg sn) (h1 : jr = 0 ∨ jr = 1) (h2 : lf = 0 ∨ lf = 1) (h3 : SI G) : zF l E yX3_save wsX3_save 3 150 [.ref (q 0), .int (iI sn)] (wN E q nq sa ha un svd sg le hv sv jb jr lf jf rd vr G) (if 0 ≤ sn ∧ sn ≤ 1 then sCT G else -2) (wN E q nq sa ha un (if 0 ≤ sn ∧ sn ≤ 1 then iU svd sn 1 else svd) sg le hv (if 0 ≤ sn ∧ sn ≤ 1 then hU sv sn (cpS (sv sn) jb jr lf jf rd vr G) else sv) jb jr lf jf rd vr G) := by
  refine zC_of (cc := cX3_save) (maxL := 2) (by decide) rfl (Nat.le_of_ble_eq_true rfl) ?_
  intro p e s m below meth c ls A hx hb hr hts hown hlocks hml hK hA hS hP hD hl
  have hown : s.vm.findClass RX3 = some m.cls := hown
  have hl : lv_has ls 2 [(0, .ref (q 0)), (1, .int (iI sn))] := hl
  have hinX3 : ∀ v ∈ u_ws RX3 TX3 6, v ∈ wsX3_save := by decide +kernel
  have hf_24 := hts (.fieldLink RX3 24 "GenerationNames" "slots" "[LGenerationNames$State;") (by decide +kernel)
  have hf_12 := hts (.fieldLink RX3 12 "GenerationNames" "now" "LGenerationNames$State;") (by decide +kernel)
  have hf_27 := hts (.fieldLink RX3 27 "GenerationNames" "saved" "[Z") (by decide +kernel)
  refine lv_iload_n hx hb dX3_save_0 rfl (lv_at hl 1 rfl) ?_
  refine z_callS0 (As := [.int (iI sn)]) (rest := []) hx hb hml hown hts hK hA hl.1 hP hD hS (c_X3_isSlot l E  sn  (by first | omega | assumption)) gX3_save_X3_isSlot rfl ndX3_isSlot ⟨Nat.le_of_ble_eq_true rfl, Nat.le_of_ble_eq_true rfl⟩ rfl rfl (Nat.le_of_ble_eq_true rfl) dX3_save_1 ⟨Nat.le_of_ble_eq_true rfl, Nat.le_of_ble_eq_true rfl⟩ (fun x H locs hpost hP hD hS => ?_)
  subst hpost
  refine z_ifb_ne (tgt := 10) hx hb dX3_save_4 (by decide) (fun c_4 => ?_) (fun c_4 => ?_)
  · refine lv_aload_n hx hb dX3_save_10 rfl (lv_at hl 0 rfl) ?_
    refine va_get (D := E.1) (cl := vwCl) (ci := 3) (v := .ref (q 2)) (C := RX3) (T := TX3) (N := 6) hx hb hts hinX3 hown hK hP 0 rfl rfl 3 (by decide) hf_24 (fun _ h => h) rfl dX3_save_11 ?_
    refine lv_iload_n hx hb dX3_save_14 rfl (lv_at hl 1 rfl) ?_
    refine z_aald (D := E.1) (cl := vwCl) (tys := zT E) (f := har sa) hx hb hK hP 2 4 rfl rfl (by omega) (by omega) (by omega) dX3_save_15 ?_
    rw [har_at (by omega)]
    refine lv_aload_n hx hb dX3_save_16 rfl (lv_at hl 0 rfl) ?_
    refine va_get (D := E.1) (cl := vwCl) (ci := 3) (v := .ref (nq 0)) (C := RX3) (T := TX3) (N := 6) hx hb hts hinX3 hown hK hP 0 rfl rfl 0 (by decide) hf_12 (fun _ h => h) rfl dX3_save_17 ?_
    refine z_cp (own := RX3) (rest := []) (q := sa sn) (q2 := nq) hx hb hml hown hts hK hA hl.1 hP hD hS gX3_save_X2_copyFrom ⟨Nat.le_of_ble_eq_true rfl, Nat.le_of_ble_eq_true rfl⟩ (by omega) (by omega) (cpS1 (by omega)) (cpS2 (by omega)) rfl (Nat.le_of_ble_eq_true rfl) dX3_save_20 ⟨Nat.le_of_ble_eq_true rfl, Nat.le_of_ble_eq_true rfl⟩ (fun H locs hP hD hS => ?_)
    have hP : va_P E.1 vwCl (wN E q nq sa ha un svd sg le hv (hU sv sn (cpS (sv sn) jb jr lf jf rd vr G)) jb jr lf jf rd vr G) H := hP
    have hD : va_D A (wN E q nq sa ha un svd sg le hv (hU sv sn (cpS (sv sn) jb jr lf jf rd vr G)) jb jr lf jf rd vr G) := hD
    refine lv_aload_n hx hb dX3_save_23 rfl (lv_at hl 0 rfl) ?_
    refine va_get (D := E.1) (cl := vwCl) (ci := 3) (v := .ref (q 3)) (C := RX3) (T := TX3) (N := 6) hx hb hts hinX3 hown hK hP 0 rfl rfl 4 (by decide) hf_27 (fun _ h => h) rfl dX3_save_24 ?_
    refine lv_iload_n hx hb dX3_save_27 rfl (lv_at hl 1 rfl) ?_
    refine lv_iconst (v := iI 1) hx hb dX3_save_28 (by decide) ?_
    refine z_zast (D := E.1) (cl := vwCl) (tys := zT E) (f := svd) hx hb hK hP hD hS 3 1 rfl rfl (nar_bool1) (by omega) (by omega) (by omega) dX3_save_29 (fun H locs hP hD hS => ?_)
    have hP : va_P E.1 vwCl (wN E q nq sa ha un (iU svd sn 1) sg le hv (hU sv sn (cpS (sv sn) jb jr lf jf rd vr G)) jb jr lf jf rd vr G) H := hP
    have hD : va_D A (wN E q nq sa ha un (iU svd sn 1) sg le hv (hU sv sn (cpS (sv sn) jb jr lf jf rd vr G)) jb jr lf jf rd vr G) := hD
    refine lv_aload_n hx hb dX3_save_30 rfl (lv_at hl 0 rfl) ?_
    refine va_get (D := E.1) (cl := vwCl) (ci := 3) (v := .ref (nq 0)) (C := RX3) (T := TX3) (N := 6) hx hb hts hinX3 hown hK hP 0 rfl rfl 0 (by decide) hf_12 (fun _ h => h) rfl dX3_save_31 ?_
    rw [wN6] at hP hD
    refine z_callM (w0 := w6 E q nq sa ha un (iU svd sn 1) sg le) (ci := 2) (qk := 0) (As := []) (rest := []) hx hb hml hown hts hK hA hl.1 hP hD hS (c_X2_countThere l E nq jb jr lf jf rd vr G   (by first | omega | assumption)) gX3_save_X2_countThere rfl ndX2_countThere ⟨Nat.le_of_ble_eq_true rfl, Nat.le_of_ble_eq_true rfl⟩ rfl rfl rfl rfl rfl (Nat.le_of_ble_eq_true rfl) dX3_save_34 ⟨Nat.le_of_ble_eq_true rfl, Nat.le_of_ble_eq_true rfl⟩ (fun x u H locs hpost hP hD hS => ?_)
    subst hpost
    have hP : va_P E.1 vwCl (wN E q nq sa ha un (iU svd sn 1) sg le hv (hU sv sn (cpS (sv sn) jb jr lf jf rd vr G)) jb jr lf jf rd vr G) H := by rw [wN6]; exact hP
    have hD : va_D A (wN E q nq sa ha un (iU svd sn 1) sg le hv (hU sv sn (cpS (sv sn) jb jr lf jf rd vr G)) jb jr lf jf rd vr G) := by rw [wN6]; exact hD
    have eqc_svd : (if 0 ≤ sn ∧ sn ≤ 1 then iU svd sn 1 else svd) = (iU svd sn 1) := by (first | rw [if_pos (by omega)] | rw [if_neg (by omega)])
    have eqc_sv : (if 0 ≤ sn ∧ sn ≤ 1 then hU sv sn (cpS (sv sn) jb jr lf jf rd vr G) else sv) = (hU sv sn (cpS (sv sn) jb jr lf jf rd vr G)) := by (first | rw [if_pos (by omega)] | rw [if_neg (by omega)])
    have hP : va_P E.1 vwCl (wN E q nq sa ha un (if 0 ≤ sn ∧ sn ≤ 1 then iU svd sn 1 else svd) sg le hv (if 0 ≤ sn ∧ sn ≤ 1 then hU sv sn (cpS (sv sn) jb jr lf jf rd vr G) else sv) jb jr lf jf rd vr G) H := by rw [eqc_svd, eqc_sv]; exact hP
    have hD : va_D A (wN E q nq sa ha un (if 0 ≤ sn ∧ sn ≤ 1 then iU svd sn 1 else svd) sg le hv (if 0 ≤ sn ∧ sn ≤ 1 then hU sv sn (cpS (sv sn) jb jr lf jf rd vr G) else sv) jb jr lf jf rd vr G) := by rw [eqc_svd, eqc_sv]; exact hD
    exact z_iret hx hb hr hlocks hK hS () (by (repeat (first | with_reducible rfl | rw [if_pos (by omega)] | rw [if_neg (by omega)]))) hP hD dX3_save_37
  · refine lv_bipush (v := iI (-2)) hx hb dX3_save_7 (by decide) ?_
    have eqc_svd : (if 0 ≤ sn ∧ sn ≤ 1 then iU svd sn 1 else svd) = svd := by (first | rw [if_pos (by omega)] | rw [if_neg (by omega)])
    have eqc_sv : (if 0 ≤ sn ∧ sn ≤ 1 then hU sv sn (cpS (sv sn) jb jr lf jf rd vr G) else sv) = sv := by (first | rw [if_pos (by omega)] | rw [if_neg (by omega)])
    have hP : va_P E.1 vwCl (wN E q nq sa ha un (if 0 ≤ sn ∧ sn ≤ 1 then iU svd sn 1 else svd) sg le hv (if 0 ≤ sn ∧ sn ≤ 1 then hU sv sn (cpS (sv sn) jb jr lf jf rd vr G) else sv) jb jr lf jf rd vr G) H := by rw [eqc_svd, eqc_sv]; exact hP
    have hD : va_D A (wN E q nq sa ha un (if 0 ≤ sn ∧ sn ≤ 1 then iU svd sn 1 else svd) sg le hv (if 0 ≤ sn ∧ sn ≤ 1 then hU sv sn (cpS (sv sn) jb jr lf jf rd vr G) else sv) jb jr lf jf rd vr G) := by rw [eqc_svd, eqc_sv]; exact hD
    exact z_iret hx hb hr hlocks hK hS () (by (repeat (first | with_reducible rfl | rw [if_pos (by omega)] | rw [if_neg (by omega)]))) hP hD dX3_save_9
