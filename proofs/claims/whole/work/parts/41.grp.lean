theorem ndX0_numberOf : yX0_numberOf.cls = RX0 ∧ yX0_numberOf.cls ≠ "java/lang/invoke/MethodHandle" ∧ yX0_numberOf.cls ≠ "java/lang/invoke/VarHandle" ∧ (parseMethodDescriptor yX0_numberOf.desc).map (fun d => d.parameters.length) = some 1 := by decide +kernel
set_option maxRecDepth 100000 in
set_option maxHeartbeats 1000000 in
theorem c_X0_numberOf (l : Launch) (E : zE) (q : Nat → Nat) (da re jo : Int → Int) (ke ne si ro de nj mj : Int) (sr : Int) (h0 : -2000000000 ≤ sr ∧ sr ≤ 2000000000) : zF l E yX0_numberOf wsX0_numberOf 0 0 [.ref (q 0), .int (iI sr)] (wG E q ke ne si ro de nj mj da re jo) (nO sr) (wG E q ke ne si ro de nj mj da re jo) := by
  refine zC_of (cc := cX0_numberOf) (maxL := 2) (by decide) rfl (Nat.le_of_ble_eq_true rfl) ?_
  intro p e s m below meth c ls A hx hb hr hts hown hlocks hml hK hA hS hP hD hl
  have hown : s.vm.findClass RX0 = some m.cls := hown
  have hl : lv_has ls 2 [(0, .ref (q 0)), (1, .int (iI sr))] := hl
  refine lv_iload_n hx hb dX0_numberOf_0 rfl (lv_at hl 1 rfl) ?_
  refine lv_iconst (v := iI 1) hx hb dX0_numberOf_1 (by decide) ?_
  refine z_icmp_ge (tgt := 9) hx hb dX0_numberOf_2 (by decide) ⟨by first | omega | exact (hz _ (by omega) (by omega)).1 | exact (hz _ (by omega) (by omega)).2, by first | omega | exact (hz _ (by omega) (by omega)).1 | exact (hz _ (by omega) (by omega)).2⟩ ⟨by first | omega | exact (hz _ (by omega) (by omega)).1 | exact (hz _ (by omega) (by omega)).2, by first | omega | exact (hz _ (by omega) (by omega)).1 | exact (hz _ (by omega) (by omega)).2⟩ (fun c_2 => ?_) (fun c_2 => ?_)
  · refine lv_iload_n hx hb dX0_numberOf_9 rfl (lv_at hl 1 rfl) ?_
    refine lv_iconst (v := iI 1) hx hb dX0_numberOf_10 (by decide) ?_
    refine z_isub hx hb dX0_numberOf_11 ?_
    refine lv_bipush (v := iI 99) hx hb dX0_numberOf_12 (by decide) ?_
    refine z_irem hx hb dX0_numberOf_14 (by omega) (by omega) (by omega) (by omega) ?_
    refine lv_iconst (v := iI 1) hx hb dX0_numberOf_15 (by decide) ?_
    refine z_iadd hx hb dX0_numberOf_16 ?_
    exact z_iret hx hb hr hlocks hK hS () (by unfold nO; (first | rw [if_pos (by omega)] | rw [if_neg (by omega)])) hP hD dX0_numberOf_17
  · refine lv_iconst (v := iI 0) hx hb dX0_numberOf_5 (by decide) ?_
    refine lv_goto (tgt := 17) hx hb dX0_numberOf_6 (by decide) ?_
    exact z_iret hx hb hr hlocks hK hS () (by unfold nO; (first | rw [if_pos (by omega)] | rw [if_neg (by omega)])) hP hD dX0_numberOf_17

theorem ndX0_oldest : yX0_oldest.cls = RX0 ∧ yX0_oldest.cls ≠ "java/lang/invoke/MethodHandle" ∧ yX0_oldest.cls ≠ "java/lang/invoke/VarHandle" ∧ (parseMethodDescriptor yX0_oldest.desc).map (fun d => d.parameters.length) = some 0 := by decide +kernel
set_option maxRecDepth 100000 in
set_option maxHeartbeats 1000000 in
theorem c_X0_oldest (l : Launch) (E : zE) (q : Nat → Nat) (da re jo : Int → Int) (ke ne si ro de nj mj : Int) : zF l E yX0_oldest wsX0_oldest 0 0 [.ref (q 0)] (wG E q ke ne si ro de nj mj da re jo) (ne - si + 1) (wG E q ke ne si ro de nj mj da re jo) := by
  refine zC_of (cc := cX0_oldest) (maxL := 1) (by decide) rfl (Nat.le_of_ble_eq_true rfl) ?_
  intro p e s m below meth c ls A hx hb hr hts hown hlocks hml hK hA hS hP hD hl
  have hown : s.vm.findClass RX0 = some m.cls := hown
  have hl : lv_has ls 1 [(0, .ref (q 0))] := hl
  have hinX0 : ∀ v ∈ u_ws RX0 TX0 10, v ∈ wsX0_oldest := by decide +kernel
  have hf_15 := hts (.fieldLink RX0 15 "GenerationNames$Group" "newest" "I") (by decide +kernel)
  have hf_18 := hts (.fieldLink RX0 18 "GenerationNames$Group" "size" "I") (by decide +kernel)
  refine lv_aload_n hx hb dX0_oldest_0 rfl (lv_at hl 0 rfl) ?_
  refine va_get (D := E.1) (cl := vwCl) (ci := 0) (v := .int (iI ne)) (C := RX0) (T := TX0) (N := 10) hx hb hts hinX0 hown hK hP 0 rfl rfl 1 (by decide) hf_15 (fun _ h => h) rfl dX0_oldest_1 ?_
  refine lv_aload_n hx hb dX0_oldest_4 rfl (lv_at hl 0 rfl) ?_
  refine va_get (D := E.1) (cl := vwCl) (ci := 0) (v := .int (iI si)) (C := RX0) (T := TX0) (N := 10) hx hb hts hinX0 hown hK hP 0 rfl rfl 2 (by decide) hf_18 (fun _ h => h) rfl dX0_oldest_5 ?_
  refine z_isub hx hb dX0_oldest_8 ?_
  refine lv_iconst (v := iI 1) hx hb dX0_oldest_9 (by decide) ?_
  refine z_iadd hx hb dX0_oldest_10 ?_
  exact z_iret hx hb hr hlocks hK hS () (by first | rfl | trivial | exact zb_t' (by omega) | exact zb_f' (by omega) | omega) hP hD dX0_oldest_11

theorem ndX0_isHole : yX0_isHole.cls = RX0 ∧ yX0_isHole.cls ≠ "java/lang/invoke/MethodHandle" ∧ yX0_isHole.cls ≠ "java/lang/invoke/VarHandle" ∧ (parseMethodDescriptor yX0_isHole.desc).map (fun d => d.parameters.length) = some 1 := by decide +kernel
set_option maxRecDepth 100000 in
set_option maxHeartbeats 1000000 in
theorem c_X0_isHole (l : Launch) (E : zE) (q : Nat → Nat) (da re jo : Int → Int) (ke ne si ro de nj mj : Int) (sr : Int) (h0 : rg (da (sr % 8))) : zF l E yX0_isHole wsX0_isHole 0 0 [.ref (q 0), .int (iI sr)] (wG E q ke ne si ro de nj mj da re jo) (zb (da (sr % 8) = -6)) (wG E q ke ne si ro de nj mj da re jo) := by
  refine zC_of (cc := cX0_isHole) (maxL := 2) (by decide) rfl (Nat.le_of_ble_eq_true rfl) ?_
  intro p e s m below meth c ls A hx hb hr hts hown hlocks hml hK hA hS hP hD hl
  have hown : s.vm.findClass RX0 = some m.cls := hown
  have hl : lv_has ls 2 [(0, .ref (q 0)), (1, .int (iI sr))] := hl
  have hinX0 : ∀ v ∈ u_ws RX0 TX0 10, v ∈ wsX0_isHole := by decide +kernel
  have hf_33 := hts (.fieldLink RX0 33 "GenerationNames$Group" "data" "[I") (by decide +kernel)
  refine lv_aload_n hx hb dX0_isHole_0 rfl (lv_at hl 0 rfl) ?_
  refine va_get (D := E.1) (cl := vwCl) (ci := 0) (v := .ref (q 1)) (C := RX0) (T := TX0) (N := 10) hx hb hts hinX0 hown hK hP 0 rfl rfl 7 (by decide) hf_33 (fun _ h => h) rfl dX0_isHole_1 ?_
  refine lv_iload_n hx hb dX0_isHole_4 rfl (lv_at hl 1 rfl) ?_
  refine lv_bipush (v := iI 7) hx hb dX0_isHole_5 (by decide) ?_
  refine z_iand7 hx hb dX0_isHole_7 ?_
  refine z_iald (D := E.1) (cl := vwCl) (tys := zT E) (f := da) hx hb hK hP 1 0 rfl rfl (by omega) (by omega) (by omega) dX0_isHole_8 ?_
  refine lv_bipush (v := iI (-6)) hx hb dX0_isHole_9 (by decide) ?_
  refine z_icmp_ne (tgt := 18) hx hb dX0_isHole_11 (by decide) ⟨by omega, by omega⟩ ⟨by omega, by omega⟩ (fun c_11 => ?_) (fun c_11 => ?_)
  · refine lv_iconst (v := iI 0) hx hb dX0_isHole_18 (by decide) ?_
    exact z_zret hx hb hr hlocks hK hS (Or.inl rfl) () (by first | rfl | trivial | exact zb_t' (by omega) | exact zb_f' (by omega) | omega) hP hD dX0_isHole_19
  · refine lv_iconst (v := iI 1) hx hb dX0_isHole_14 (by decide) ?_
    refine lv_goto (tgt := 19) hx hb dX0_isHole_15 (by decide) ?_
    exact z_zret hx hb hr hlocks hK hS (Or.inr rfl) () (by first | rfl | trivial | exact zb_t' (by omega) | exact zb_f' (by omega) | omega) hP hD dX0_isHole_19

theorem ndX0_isThere : yX0_isThere.cls = RX0 ∧ yX0_isThere.cls ≠ "java/lang/invoke/MethodHandle" ∧ yX0_isThere.cls ≠ "java/lang/invoke/VarHandle" ∧ (parseMethodDescriptor yX0_isThere.desc).map (fun d => d.parameters.length) = some 1 := by decide +kernel
set_option maxRecDepth 100000 in
set_option maxHeartbeats 1000000 in
theorem c_X0_isThere (l : Launch) (E : zE) (q : Nat → Nat) (da re jo : Int → Int) (ke ne si ro de nj mj : Int) (sr : Int) (h0 : -2000000000 ≤ sr ∧ sr ≤ 2000000000) (h1 : 0 ≤ ne ∧ ne ≤ 2000000000) (h2 : 0 ≤ si ∧ si ≤ 8) (h3 : ∀ j : Int, 0 ≤ j → j < 8 → rg (da j)) : zF l E yX0_isThere wsX0_isThere 1 21 [.ref (q 0), .int (iI sr)] (wG E q ke ne si ro de nj mj da re jo) (zb (thP ne si da sr)) (wG E q ke ne si ro de nj mj da re jo) := by
  have hz := h3
  refine zC_of (cc := cX0_isThere) (maxL := 2) (by decide) rfl (Nat.le_of_ble_eq_true rfl) ?_
  intro p e s m below meth c ls A hx hb hr hts hown hlocks hml hK hA hS hP hD hl
  have hown : s.vm.findClass RX0 = some m.cls := hown
  have hl : lv_has ls 2 [(0, .ref (q 0)), (1, .int (iI sr))] := hl
  have hinX0 : ∀ v ∈ u_ws RX0 TX0 10, v ∈ wsX0_isThere := by decide +kernel
  have hf_15 := hts (.fieldLink RX0 15 "GenerationNames$Group" "newest" "I") (by decide +kernel)
  refine lv_iload_n hx hb dX0_isThere_0 rfl (lv_at hl 1 rfl) ?_
  refine lv_aload_n hx hb dX0_isThere_1 rfl (lv_at hl 0 rfl) ?_
  refine z_callV0 (ci := 0) (qk := 0) (As := []) (rest := [.int (iI sr)]) hx hb hml hown hts hK hA hl.1 hP hD hS (c_X0_oldest l E q da re jo ke ne si ro de nj mj   ) gX0_isThere_X0_oldest rfl ndX0_oldest ⟨Nat.le_of_ble_eq_true rfl, Nat.le_of_ble_eq_true rfl⟩ rfl rfl rfl rfl rfl (Nat.le_of_ble_eq_true rfl) dX0_isThere_2 ⟨Nat.le_of_ble_eq_true rfl, Nat.le_of_ble_eq_true rfl⟩ (fun x u H locs hpost hP hD hS => ?_)
  subst hpost
  have hP : va_P E.1 vwCl (wG E q ke ne si ro de nj mj da re jo) H := hP
  have hD : va_D A (wG E q ke ne si ro de nj mj da re jo) := hD
  refine z_icmp_lt (tgt := 28) hx hb dX0_isThere_5 (by decide) ⟨by first | omega | exact (hz _ (by omega) (by omega)).1 | exact (hz _ (by omega) (by omega)).2, by first | omega | exact (hz _ (by omega) (by omega)).1 | exact (hz _ (by omega) (by omega)).2⟩ ⟨by first | omega | exact (hz _ (by omega) (by omega)).1 | exact (hz _ (by omega) (by omega)).2, by first | omega | exact (hz _ (by omega) (by omega)).1 | exact (hz _ (by omega) (by omega)).2⟩ (fun c_5 => ?_) (fun c_5 => ?_)
  · refine lv_iconst (v := iI 0) hx hb dX0_isThere_28 (by decide) ?_
    exact z_zret hx hb hr hlocks hK hS (Or.inl rfl) () (by first | exact zb_t' (by unfold thP; omega) | exact zb_f' (by unfold thP; omega)) hP hD dX0_isThere_29
  · refine lv_iload_n hx hb dX0_isThere_8 rfl (lv_at hl 1 rfl) ?_
    refine lv_aload_n hx hb dX0_isThere_9 rfl (lv_at hl 0 rfl) ?_
    refine va_get (D := E.1) (cl := vwCl) (ci := 0) (v := .int (iI ne)) (C := RX0) (T := TX0) (N := 10) hx hb hts hinX0 hown hK hP 0 rfl rfl 1 (by decide) hf_15 (fun _ h => h) rfl dX0_isThere_10 ?_
    refine z_icmp_gt (tgt := 28) hx hb dX0_isThere_13 (by decide) ⟨by first | omega | exact (hz _ (by omega) (by omega)).1 | exact (hz _ (by omega) (by omega)).2, by first | omega | exact (hz _ (by omega) (by omega)).1 | exact (hz _ (by omega) (by omega)).2⟩ ⟨by first | omega | exact (hz _ (by omega) (by omega)).1 | exact (hz _ (by omega) (by omega)).2, by first | omega | exact (hz _ (by omega) (by omega)).1 | exact (hz _ (by omega) (by omega)).2⟩ (fun c_13 => ?_) (fun c_13 => ?_)
    · refine lv_iconst (v := iI 0) hx hb dX0_isThere_28 (by decide) ?_
      exact z_zret hx hb hr hlocks hK hS (Or.inl rfl) () (by first | exact zb_t' (by unfold thP; omega) | exact zb_f' (by unfold thP; omega)) hP hD dX0_isThere_29
    · refine lv_aload_n hx hb dX0_isThere_16 rfl (lv_at hl 0 rfl) ?_
      refine lv_iload_n hx hb dX0_isThere_17 rfl (lv_at hl 1 rfl) ?_
      refine z_callV0 (ci := 0) (qk := 0) (As := [.int (iI sr)]) (rest := []) hx hb hml hown hts hK hA hl.1 hP hD hS (c_X0_isHole l E q da re jo ke ne si ro de nj mj sr  (by first | omega | exact hz | exact hz _ (by omega) (by omega) | exact ⟨by omega, by omega⟩)) gX0_isThere_X0_isHole rfl ndX0_isHole ⟨Nat.le_of_ble_eq_true rfl, Nat.le_of_ble_eq_true rfl⟩ rfl rfl rfl rfl rfl (Nat.le_of_ble_eq_true rfl) dX0_isThere_18 ⟨Nat.le_of_ble_eq_true rfl, Nat.le_of_ble_eq_true rfl⟩ (fun x u H locs hpost hP hD hS => ?_)
      subst hpost
      have hP : va_P E.1 vwCl (wG E q ke ne si ro de nj mj da re jo) H := hP
      have hD : va_D A (wG E q ke ne si ro de nj mj da re jo) := hD
      refine z_ifb_ne (tgt := 28) hx hb dX0_isThere_21 (by decide) (fun c_21 => ?_) (fun c_21 => ?_)
      · refine lv_iconst (v := iI 0) hx hb dX0_isThere_28 (by decide) ?_
        exact z_zret hx hb hr hlocks hK hS (Or.inl rfl) () (by first | exact zb_t' (by unfold thP; omega) | exact zb_f' (by unfold thP; omega)) hP hD dX0_isThere_29
      · refine lv_iconst (v := iI 1) hx hb dX0_isThere_24 (by decide) ?_
        refine lv_goto (tgt := 29) hx hb dX0_isThere_25 (by decide) ?_
        exact z_zret hx hb hr hlocks hK hS (Or.inr rfl) () (by first | exact zb_t' (by unfold thP; omega) | exact zb_f' (by unfold thP; omega)) hP hD dX0_isThere_29

theorem ndX0_numberIfThere : yX0_numberIfThere.cls = RX0 ∧ yX0_numberIfThere.cls ≠ "java/lang/invoke/MethodHandle" ∧ yX0_numberIfThere.cls ≠ "java/lang/invoke/VarHandle" ∧ (parseMethodDescriptor yX0_numberIfThere.desc).map (fun d => d.parameters.length) = some 1 := by decide +kernel
set_option maxRecDepth 100000 in
set_option maxHeartbeats 1000000 in
theorem c_X0_numberIfThere (l : Launch) (E : zE) (q : Nat → Nat) (da re jo : Int → Int) (ke ne si ro de nj mj : Int) (sr : Int) (h0 : -2000000000 ≤ sr ∧ sr ≤ 2000000000) (h1 : 0 ≤ ne ∧ ne ≤ 2000000000) (h2 : 0 ≤ si ∧ si ≤ 8) (h3 : ∀ j : Int, 0 ≤ j → j < 8 → rg (da j)) : zF l E yX0_numberIfThere wsX0_numberIfThere 2 42 [.ref (q 0), .int (iI sr)] (wG E q ke ne si ro de nj mj da re jo) (nIT ne si da sr) (wG E q ke ne si ro de nj mj da re jo) := by
  have hz := h3
  refine zC_of (cc := cX0_numberIfThere) (maxL := 2) (by decide) rfl (Nat.le_of_ble_eq_true rfl) ?_
  intro p e s m below meth c ls A hx hb hr hts hown hlocks hml hK hA hS hP hD hl
  have hown : s.vm.findClass RX0 = some m.cls := hown
  have hl : lv_has ls 2 [(0, .ref (q 0)), (1, .int (iI sr))] := hl
  refine lv_aload_n hx hb dX0_numberIfThere_0 rfl (lv_at hl 0 rfl) ?_
  refine lv_iload_n hx hb dX0_numberIfThere_1 rfl (lv_at hl 1 rfl) ?_
  refine z_callV0 (ci := 0) (qk := 0) (As := [.int (iI sr)]) (rest := []) hx hb hml hown hts hK hA hl.1 hP hD hS (c_X0_isThere l E q da re jo ke ne si ro de nj mj sr  (by first | omega | exact hz | exact hz _ (by omega) (by omega) | exact ⟨by omega, by omega⟩) (by first | omega | exact hz | exact hz _ (by omega) (by omega) | exact ⟨by omega, by omega⟩) (by first | omega | exact hz | exact hz _ (by omega) (by omega) | exact ⟨by omega, by omega⟩) (by first | omega | exact hz | exact hz _ (by omega) (by omega) | exact ⟨by omega, by omega⟩)) gX0_numberIfThere_X0_isThere rfl ndX0_isThere ⟨Nat.le_of_ble_eq_true rfl, Nat.le_of_ble_eq_true rfl⟩ rfl rfl rfl rfl rfl (Nat.le_of_ble_eq_true rfl) dX0_numberIfThere_2 ⟨Nat.le_of_ble_eq_true rfl, Nat.le_of_ble_eq_true rfl⟩ (fun x u H locs hpost hP hD hS => ?_)
  subst hpost
  have hP : va_P E.1 vwCl (wG E q ke ne si ro de nj mj da re jo) H := hP
  have hD : va_D A (wG E q ke ne si ro de nj mj da re jo) := hD
  refine z_ifb_eq (tgt := 16) hx hb dX0_numberIfThere_5 (by decide) (fun c_5 => ?_) (fun c_5 => ?_)
  · refine lv_bipush (v := iI (-6)) hx hb dX0_numberIfThere_16 (by decide) ?_
    exact z_iret hx hb hr hlocks hK hS () (by unfold nIT; first | rw [if_pos c_5] | rw [if_neg c_5]) hP hD dX0_numberIfThere_18
  · refine lv_aload_n hx hb dX0_numberIfThere_8 rfl (lv_at hl 0 rfl) ?_
    refine lv_iload_n hx hb dX0_numberIfThere_9 rfl (lv_at hl 1 rfl) ?_
    refine z_callV0 (ci := 0) (qk := 0) (As := [.int (iI sr)]) (rest := []) hx hb hml hown hts hK hA hl.1 hP hD hS (c_X0_numberOf l E q da re jo ke ne si ro de nj mj sr  (by first | omega | exact hz | exact hz _ (by omega) (by omega) | exact ⟨by omega, by omega⟩)) gX0_numberIfThere_X0_numberOf rfl ndX0_numberOf ⟨Nat.le_of_ble_eq_true rfl, Nat.le_of_ble_eq_true rfl⟩ rfl rfl rfl rfl rfl (Nat.le_of_ble_eq_true rfl) dX0_numberIfThere_10 ⟨Nat.le_of_ble_eq_true rfl, Nat.le_of_ble_eq_true rfl⟩ (fun x u H locs hpost hP hD hS => ?_)
    subst hpost
    have hP : va_P E.1 vwCl (wG E q ke ne si ro de nj mj da re jo) H := hP
    have hD : va_D A (wG E q ke ne si ro de nj mj da re jo) := hD
    refine lv_goto (tgt := 18) hx hb dX0_numberIfThere_13 (by decide) ?_
    exact z_iret hx hb hr hlocks hK hS () (by unfold nIT; first | rw [if_pos c_5] | rw [if_neg c_5]) hP hD dX0_numberIfThere_18

theorem ndX0_serialOf : yX0_serialOf.cls = RX0 ∧ yX0_serialOf.cls ≠ "java/lang/invoke/MethodHandle" ∧ yX0_serialOf.cls ≠ "java/lang/invoke/VarHandle" ∧ (parseMethodDescriptor yX0_serialOf.desc).map (fun d => d.parameters.length) = some 2 := by decide +kernel
set_option maxRecDepth 100000 in
set_option maxHeartbeats 1000000 in
theorem c_X0_serialOf (l : Launch) (E : zE) (q : Nat → Nat) (da re jo : Int → Int) (ke ne si ro de nj mj : Int) (n : Int) (b : Int) (h0 : rg n) (h1 : b = 0 ∨ b = 1) : zF l E yX0_serialOf wsX0_serialOf 0 0 [.ref (q 0), .int (iI n), .int (iI b)] (wG E q ke ne si ro de nj mj da re jo) (sOf ne nj mj n b) (wG E q ke ne si ro de nj mj da re jo) := by
  refine zC_of (cc := cX0_serialOf) (maxL := 3) (by decide) rfl (Nat.le_of_ble_eq_true rfl) ?_
  intro p e s m below meth c ls A hx hb hr hts hown hlocks hml hK hA hS hP hD hl
  have hown : s.vm.findClass RX0 = some m.cls := hown
  have hl : lv_has ls 3 [(0, .ref (q 0)), (1, .int (iI n)), (2, .int (iI b))] := hl
  have hinX0 : ∀ v ∈ u_ws RX0 TX0 10, v ∈ wsX0_serialOf := by decide +kernel
  have hf_15 := hts (.fieldLink RX0 15 "GenerationNames$Group" "newest" "I") (by decide +kernel)
  have hf_27 := hts (.fieldLink RX0 27 "GenerationNames$Group" "newestForJob" "I") (by decide +kernel)
  have hf_30 := hts (.fieldLink RX0 30 "GenerationNames$Group" "madeByJob" "I") (by decide +kernel)
  refine lv_iload_n hx hb dX0_serialOf_0 rfl (lv_at hl 1 rfl) ?_
  refine lv_iconst (v := iI 1) hx hb dX0_serialOf_1 (by decide) ?_
  refine z_icmp_ne (tgt := 18) hx hb dX0_serialOf_2 (by decide) ⟨by first | omega | exact (hz _ (by omega) (by omega)).1 | exact (hz _ (by omega) (by omega)).2, by first | omega | exact (hz _ (by omega) (by omega)).1 | exact (hz _ (by omega) (by omega)).2⟩ ⟨by first | omega | exact (hz _ (by omega) (by omega)).1 | exact (hz _ (by omega) (by omega)).2, by first | omega | exact (hz _ (by omega) (by omega)).1 | exact (hz _ (by omega) (by omega)).2⟩ (fun c_2 => ?_) (fun c_2 => ?_)
  · refine lv_iload_n hx hb dX0_serialOf_18 rfl (lv_at hl 2 rfl) ?_
    refine z_if_eq (tgt := 29) hx hb dX0_serialOf_19 (by decide) ⟨by first | omega | exact (hz _ (by omega) (by omega)).1 | exact (hz _ (by omega) (by omega)).2, by first | omega | exact (hz _ (by omega) (by omega)).1 | exact (hz _ (by omega) (by omega)).2⟩ (fun c_19 => ?_) (fun c_19 => ?_)
    · refine lv_aload_n hx hb dX0_serialOf_29 rfl (lv_at hl 0 rfl) ?_
      refine va_get (D := E.1) (cl := vwCl) (ci := 0) (v := .int (iI ne)) (C := RX0) (T := TX0) (N := 10) hx hb hts hinX0 hown hK hP 0 rfl rfl 1 (by decide) hf_15 (fun _ h => h) rfl dX0_serialOf_30 ?_
      refine lv_iload_n hx hb dX0_serialOf_33 rfl (lv_at hl 1 rfl) ?_
      refine z_iadd hx hb dX0_serialOf_34 ?_
      exact z_iret hx hb hr hlocks hK hS () (by unfold sOf; (repeat (first | with_reducible rfl | rw [if_pos (by omega)] | rw [if_neg (by omega)]))) hP hD dX0_serialOf_35
    · refine lv_aload_n hx hb dX0_serialOf_22 rfl (lv_at hl 0 rfl) ?_
      refine va_get (D := E.1) (cl := vwCl) (ci := 0) (v := .int (iI nj)) (C := RX0) (T := TX0) (N := 10) hx hb hts hinX0 hown hK hP 0 rfl rfl 5 (by decide) hf_27 (fun _ h => h) rfl dX0_serialOf_23 ?_
      refine lv_goto (tgt := 33) hx hb dX0_serialOf_26 (by decide) ?_
      refine lv_iload_n hx hb dX0_serialOf_33 rfl (lv_at hl 1 rfl) ?_
      refine z_iadd hx hb dX0_serialOf_34 ?_
      exact z_iret hx hb hr hlocks hK hS () (by unfold sOf; (repeat (first | with_reducible rfl | rw [if_pos (by omega)] | rw [if_neg (by omega)]))) hP hD dX0_serialOf_35
  · refine lv_iload_n hx hb dX0_serialOf_5 rfl (lv_at hl 2 rfl) ?_
    refine z_if_eq (tgt := 16) hx hb dX0_serialOf_6 (by decide) ⟨by first | omega | exact (hz _ (by omega) (by omega)).1 | exact (hz _ (by omega) (by omega)).2, by first | omega | exact (hz _ (by omega) (by omega)).1 | exact (hz _ (by omega) (by omega)).2⟩ (fun c_6 => ?_) (fun c_6 => ?_)
    · refine lv_iconst (v := iI 0) hx hb dX0_serialOf_16 (by decide) ?_
      exact z_iret hx hb hr hlocks hK hS () (by unfold sOf; (repeat (first | with_reducible rfl | rw [if_pos (by omega)] | rw [if_neg (by omega)]))) hP hD dX0_serialOf_17
    · refine lv_aload_n hx hb dX0_serialOf_9 rfl (lv_at hl 0 rfl) ?_
      refine va_get (D := E.1) (cl := vwCl) (ci := 0) (v := .int (iI mj)) (C := RX0) (T := TX0) (N := 10) hx hb hts hinX0 hown hK hP 0 rfl rfl 6 (by decide) hf_30 (fun _ h => h) rfl dX0_serialOf_10 ?_
      refine lv_goto (tgt := 17) hx hb dX0_serialOf_13 (by decide) ?_
      exact z_iret hx hb hr hlocks hK hS () (by unfold sOf; (repeat (first | with_reducible rfl | rw [if_pos (by omega)] | rw [if_neg (by omega)]))) hP hD dX0_serialOf_17

theorem ndX0_nameForJob : yX0_nameForJob.cls = RX0 ∧ yX0_nameForJob.cls ≠ "java/lang/invoke/MethodHandle" ∧ yX0_nameForJob.cls ≠ "java/lang/invoke/VarHandle" ∧ (parseMethodDescriptor yX0_nameForJob.desc).map (fun d => d.parameters.length) = some 1 := by decide +kernel
set_option maxRecDepth 100000 in
set_option maxHeartbeats 1000000 in
theorem c_X0_nameForJob (l : Launch) (E : zE) (q : Nat → Nat) (da re jo : Int → Int) (ke ne si ro de nj mj : Int) (sr : Int) (h0 : -2000000000 ≤ sr ∧ sr ≤ 2000000000) (h1 : 0 ≤ nj ∧ nj ≤ 2000000000) (h2 : 0 ≤ mj ∧ mj ≤ 2000000000) (h3 : 0 ≤ sr) : zF l E yX0_nameForJob wsX0_nameForJob 0 0 [.ref (q 0), .int (iI sr)] (wG E q ke ne si ro de nj mj da re jo) (nFJ nj mj sr) (wG E q ke ne si ro de nj mj da re jo) := by
  refine zC_of (cc := cX0_nameForJob) (maxL := 3) (by decide) rfl (Nat.le_of_ble_eq_true rfl) ?_
  intro p e s m below meth c ls A hx hb hr hts hown hlocks hml hK hA hS hP hD hl
  have hown : s.vm.findClass RX0 = some m.cls := hown
  have hl : lv_has ls 3 [(0, .ref (q 0)), (1, .int (iI sr))] := hl
  have hinX0 : ∀ v ∈ u_ws RX0 TX0 10, v ∈ wsX0_nameForJob := by decide +kernel
  have hf_30 := hts (.fieldLink RX0 30 "GenerationNames$Group" "madeByJob" "I") (by decide +kernel)
  have hf_27 := hts (.fieldLink RX0 27 "GenerationNames$Group" "newestForJob" "I") (by decide +kernel)
  refine lv_iload_n hx hb dX0_nameForJob_0 rfl (lv_at hl 1 rfl) ?_
  refine lv_aload_n hx hb dX0_nameForJob_1 rfl (lv_at hl 0 rfl) ?_
  refine va_get (D := E.1) (cl := vwCl) (ci := 0) (v := .int (iI mj)) (C := RX0) (T := TX0) (N := 10) hx hb hts hinX0 hown hK hP 0 rfl rfl 6 (by decide) hf_30 (fun _ h => h) rfl dX0_nameForJob_2 ?_
  refine z_icmp_ne (tgt := 11) hx hb dX0_nameForJob_5 (by decide) ⟨by first | omega | exact (hz _ (by omega) (by omega)).1 | exact (hz _ (by omega) (by omega)).2, by first | omega | exact (hz _ (by omega) (by omega)).1 | exact (hz _ (by omega) (by omega)).2⟩ ⟨by first | omega | exact (hz _ (by omega) (by omega)).1 | exact (hz _ (by omega) (by omega)).2, by first | omega | exact (hz _ (by omega) (by omega)).1 | exact (hz _ (by omega) (by omega)).2⟩ (fun c_5 => ?_) (fun c_5 => ?_)
  · refine lv_iload_n hx hb dX0_nameForJob_11 rfl (lv_at hl 1 rfl) ?_
    refine lv_aload_n hx hb dX0_nameForJob_12 rfl (lv_at hl 0 rfl) ?_
    refine va_get (D := E.1) (cl := vwCl) (ci := 0) (v := .int (iI nj)) (C := RX0) (T := TX0) (N := 10) hx hb hts hinX0 hown hK hP 0 rfl rfl 5 (by decide) hf_27 (fun _ h => h) rfl dX0_nameForJob_13 ?_
    refine z_isub hx hb dX0_nameForJob_16 ?_
    refine lv_istore_n (lv' := [(2, .int (iI (sr - nj))), (0, .ref (q 0)), (1, .int (iI sr))]) hx hb dX0_nameForJob_17 rfl hl (by decide) rfl (fun ls hl => ?_)
    refine lv_iload_n hx hb dX0_nameForJob_18 rfl (lv_at hl 0 rfl) ?_
    refine lv_bipush (v := iI (-7)) hx hb dX0_nameForJob_19 (by decide) ?_
    refine z_icmp_lt (tgt := 35) hx hb dX0_nameForJob_21 (by decide) ⟨by first | omega | exact (hz _ (by omega) (by omega)).1 | exact (hz _ (by omega) (by omega)).2, by first | omega | exact (hz _ (by omega) (by omega)).1 | exact (hz _ (by omega) (by omega)).2⟩ ⟨by first | omega | exact (hz _ (by omega) (by omega)).1 | exact (hz _ (by omega) (by omega)).2, by first | omega | exact (hz _ (by omega) (by omega)).1 | exact (hz _ (by omega) (by omega)).2⟩ (fun c_21 => ?_) (fun c_21 => ?_)
    · refine lv_bipush (v := iI (-6)) hx hb dX0_nameForJob_35 (by decide) ?_
      exact z_iret hx hb hr hlocks hK hS () (by unfold nFJ; (repeat (first | with_reducible rfl | rw [if_pos (by omega)] | rw [if_neg (by omega)]))) hP hD dX0_nameForJob_37
    · refine lv_iload_n hx hb dX0_nameForJob_24 rfl (lv_at hl 0 rfl) ?_
      refine z_if_gt (tgt := 35) hx hb dX0_nameForJob_25 (by decide) ⟨by first | omega | exact (hz _ (by omega) (by omega)).1 | exact (hz _ (by omega) (by omega)).2, by first | omega | exact (hz _ (by omega) (by omega)).1 | exact (hz _ (by omega) (by omega)).2⟩ (fun c_25 => ?_) (fun c_25 => ?_)
      · refine lv_bipush (v := iI (-6)) hx hb dX0_nameForJob_35 (by decide) ?_
        exact z_iret hx hb hr hlocks hK hS () (by unfold nFJ; (repeat (first | with_reducible rfl | rw [if_pos (by omega)] | rw [if_neg (by omega)]))) hP hD dX0_nameForJob_37
      · refine lv_iload_n hx hb dX0_nameForJob_28 rfl (lv_at hl 0 rfl) ?_
        refine lv_bipush (v := iI 10) hx hb dX0_nameForJob_29 (by decide) ?_
        refine z_iadd hx hb dX0_nameForJob_31 ?_
        refine lv_goto (tgt := 37) hx hb dX0_nameForJob_32 (by decide) ?_
        exact z_iret hx hb hr hlocks hK hS () (by unfold nFJ; (repeat (first | with_reducible rfl | rw [if_pos (by omega)] | rw [if_neg (by omega)]))) hP hD dX0_nameForJob_37
  · refine lv_bipush (v := iI 11) hx hb dX0_nameForJob_8 (by decide) ?_
    exact z_iret hx hb hr hlocks hK hS () (by unfold nFJ; (repeat (first | with_reducible rfl | rw [if_pos (by omega)] | rw [if_neg (by omega)]))) hP hD dX0_nameForJob_10

theorem ndX0_leaveMost : yX0_leaveMost.cls = RX0 ∧ yX0_leaveMost.cls ≠ "java/lang/invoke/MethodHandle" ∧ yX0_leaveMost.cls ≠ "java/lang/invoke/VarHandle" ∧ (parseMethodDescriptor yX0_leaveMost.desc).map (fun d => d.parameters.length) = some 1 := by decide +kernel
set_option maxRecDepth 100000 in
set_option maxHeartbeats 1000000 in
theorem c_X0_leaveMost (l : Launch) (E : zE) (q : Nat → Nat) (da re jo : Int → Int) (ke ne si ro de nj mj : Int) (mo : Int) (h0 : 0 ≤ ne ∧ ne ≤ 2000000000) (h1 : 0 ≤ si ∧ si ≤ 8) (h2 : ∀ j : Int, 0 ≤ j → j < 8 → rg (da j)) (h3 : rg mo) : zFv l E yX0_leaveMost wsX0_leaveMost 1 21 [.ref (q 0), .int (iI mo)] (wG E q ke ne si ro de nj mj da re jo) (wG E q ke ne ((cL da ne mo si ro).1) ((cL da ne mo si ro).2) de nj mj da re jo) := by
  have hz := h2
  refine zCv_of (cc := cX0_leaveMost) (maxL := 2) (by decide) rfl (Nat.le_of_ble_eq_true rfl) ?_
  intro p e s m below meth c ls A hx hb hr hts hown hlocks hml hK hA hS hP hD hl
  have hown : s.vm.findClass RX0 = some m.cls := hown
  have hl : lv_has ls 2 [(0, .ref (q 0)), (1, .int (iI mo))] := hl
  have hinX0 : ∀ v ∈ u_ws RX0 TX0 10, v ∈ wsX0_leaveMost := by decide +kernel
  have hf_18 := hts (.fieldLink RX0 18 "GenerationNames$Group" "size" "I") (by decide +kernel)
  have hf_21 := hts (.fieldLink RX0 21 "GenerationNames$Group" "rolledOff" "I") (by decide +kernel)
  have hloop0 : ∀ (n : Nat) (s1 : Int) (r1 : Int) (hmu : s1 = (n : Int)) (hi0_0 : cLv da ne mo (s1).toNat s1 r1 = cL da ne mo si ro) (hi0_1 : 0 ≤ s1 ∧ s1 ≤ 8) (H : Heap) (locs : List Loc) (ls : Array Slot), va_P E.1 vwCl (wG E q ke ne s1 r1 de nj mj da re jo) H → va_D A (wG E q ke ne s1 r1 de nj mj da re jo) → va_S A s.heap H locs → lv_has ls 2 [(0, .ref (q 0)), (1, .int (iI mo))] → W p l e (zR 1 21) s m ([.ref (q 0), .int (iI mo)] : List Value).toArray below meth c H locs 0 0 (MQ below (zQv E A (S := Unit) (fun _ => True) (fun _ => wG E q ke ne ((cL da ne mo si ro).1) ((cL da ne mo si ro).2) de nj mj da re jo)) ([.ref (q 0), .int (iI mo)] : List Value).toArray s 0 0 A) (F0 m 0 ls []) := by
    intro n
    induction n using Nat.strongRecOn with
    | ind n ih0 =>
      intro s1 r1 hmu0 hi0_0 hi0_1 H locs ls hP hD hS hl
      refine lv_aload_n hx hb dX0_leaveMost_0 rfl (lv_at hl 0 rfl) ?_
      refine va_get (D := E.1) (cl := vwCl) (ci := 0) (v := .int (iI s1)) (C := RX0) (T := TX0) (N := 10) hx hb hts hinX0 hown hK hP 0 rfl rfl 2 (by decide) hf_18 (fun _ h => h) rfl dX0_leaveMost_1 ?_
      refine z_if_le (tgt := 60) hx hb dX0_leaveMost_4 (by decide) ⟨by first | omega | exact (hz _ (by omega) (by omega)).1 | exact (hz _ (by omega) (by omega)).2, by first | omega | exact (hz _ (by omega) (by omega)).1 | exact (hz _ (by omega) (by omega)).2⟩ (fun c_4 => ?_) (fun c_4 => ?_)
      · have eqc_si : ((cL da ne mo si ro).1) = s1 := by rw [← hi0_0, cLv_stop (by omega)]
        have eqc_ro : ((cL da ne mo si ro).2) = r1 := by rw [← hi0_0, cLv_stop (by omega)]
        have hP : va_P E.1 vwCl (wG E q ke ne ((cL da ne mo si ro).1) ((cL da ne mo si ro).2) de nj mj da re jo) H := by rw [eqc_si, eqc_ro]; exact hP
        have hD : va_D A (wG E q ke ne ((cL da ne mo si ro).1) ((cL da ne mo si ro).2) de nj mj da re jo) := by rw [eqc_si, eqc_ro]; exact hD
        exact z_vret hx hb hr hlocks hK hS () (by first | rfl | trivial | exact zb_t' (by omega) | exact zb_f' (by omega) | omega) hP hD dX0_leaveMost_60
      · refine lv_aload_n hx hb dX0_leaveMost_7 rfl (lv_at hl 0 rfl) ?_
        refine va_get (D := E.1) (cl := vwCl) (ci := 0) (v := .int (iI s1)) (C := RX0) (T := TX0) (N := 10) hx hb hts hinX0 hown hK hP 0 rfl rfl 2 (by decide) hf_18 (fun _ h => h) rfl dX0_leaveMost_8 ?_
        refine lv_iload_n hx hb dX0_leaveMost_11 rfl (lv_at hl 1 rfl) ?_
        refine z_icmp_gt (tgt := 26) hx hb dX0_leaveMost_12 (by decide) ⟨by first | omega | exact (hz _ (by omega) (by omega)).1 | exact (hz _ (by omega) (by omega)).2, by first | omega | exact (hz _ (by omega) (by omega)).1 | exact (hz _ (by omega) (by omega)).2⟩ ⟨by first | omega | exact (hz _ (by omega) (by omega)).1 | exact (hz _ (by omega) (by omega)).2, by first | omega | exact (hz _ (by omega) (by omega)).1 | exact (hz _ (by omega) (by omega)).2⟩ (fun c_12 => ?_) (fun c_12 => ?_)
        · refine lv_aload_n hx hb dX0_leaveMost_26 rfl (lv_at hl 0 rfl) ?_
          refine lv_aload_n hx hb dX0_leaveMost_27 rfl (lv_at hl 0 rfl) ?_
          refine z_callV0 (ci := 0) (qk := 0) (As := []) (rest := [.ref (q 0)]) hx hb hml hown hts hK hA hl.1 hP hD hS (c_X0_oldest l E q da re jo ke ne s1 r1 de nj mj   ) gX0_leaveMost_X0_oldest rfl ndX0_oldest ⟨Nat.le_of_ble_eq_true rfl, Nat.le_of_ble_eq_true rfl⟩ rfl rfl rfl rfl rfl (Nat.le_of_ble_eq_true rfl) dX0_leaveMost_28 ⟨Nat.le_of_ble_eq_true rfl, Nat.le_of_ble_eq_true rfl⟩ (fun x u H locs hpost hP hD hS => ?_)
          subst hpost
          have hP : va_P E.1 vwCl (wG E q ke ne s1 r1 de nj mj da re jo) H := hP
          have hD : va_D A (wG E q ke ne s1 r1 de nj mj da re jo) := hD
          refine z_callV0 (ci := 0) (qk := 0) (As := [.int (iI (ne - s1 + 1))]) (rest := []) hx hb hml hown hts hK hA hl.1 hP hD hS (c_X0_isHole l E q da re jo ke ne s1 r1 de nj mj (ne - s1 + 1)  (by first | omega | exact hz | exact hz _ (by omega) (by omega) | exact ⟨by omega, by omega⟩)) gX0_leaveMost_X0_isHole rfl ndX0_isHole ⟨Nat.le_of_ble_eq_true rfl, Nat.le_of_ble_eq_true rfl⟩ rfl rfl rfl rfl rfl (Nat.le_of_ble_eq_true rfl) dX0_leaveMost_31 ⟨Nat.le_of_ble_eq_true rfl, Nat.le_of_ble_eq_true rfl⟩ (fun x u H locs hpost hP hD hS => ?_)
          subst hpost
          have hP : va_P E.1 vwCl (wG E q ke ne s1 r1 de nj mj da re jo) H := hP
          have hD : va_D A (wG E q ke ne s1 r1 de nj mj da re jo) := hD
          refine z_ifb_ne (tgt := 47) hx hb dX0_leaveMost_34 (by decide) (fun c_34 => ?_) (fun c_34 => ?_)
          · refine lv_aload_n hx hb dX0_leaveMost_47 rfl (lv_at hl 0 rfl) ?_
            refine lv_dup hx hb dX0_leaveMost_48 rfl ?_
            refine va_get (D := E.1) (cl := vwCl) (ci := 0) (v := .int (iI s1)) (C := RX0) (T := TX0) (N := 10) hx hb hts hinX0 hown hK hP 0 rfl rfl 2 (by decide) hf_18 (fun _ h => h) rfl dX0_leaveMost_49 ?_
            refine lv_iconst (v := iI 1) hx hb dX0_leaveMost_52 (by decide) ?_
            refine z_isub hx hb dX0_leaveMost_53 ?_
            refine va_put (D := E.1) (cl := vwCl) (ci := 0) (v := .int (iI (s1 - 1))) (ty := .int) (C := RX0) (T := TX0) (N := 10) hx hb hts hinX0 tyX0 tyX0_ok nmX0 hown hK hP hD hS 0 rfl rfl 2 (by decide) hf_18 (fun _ h => h) rfl (by decide +kernel) (rfl) (rfl) (Nat.le_of_ble_eq_true rfl) dX0_leaveMost_54 (fun H locs hP hD hS => ?_)
            have hP : va_P E.1 vwCl (wG E q ke ne (s1 - 1) r1 de nj mj da re jo) H := hP
            have hD : va_D A (wG E q ke ne (s1 - 1) r1 de nj mj da re jo) := hD
            refine lv_goto (tgt := 0) hx hb dX0_leaveMost_57 (by decide) ?_
            exact ih0 ((s1 - 1) : Int).toNat (by omega) (s1 - 1) r1 (by omega) (by first | (exfalso; omega) | (rw [← hi0_0, cLv_step (si := s1) (ro := r1) (by omega)]; first | rw [if_pos c_34, Int.add_zero] | rw [if_neg c_34])) (by omega) _ _ ls hP hD hS (lv_sub hl [0, 1] rfl)
          · refine lv_aload_n hx hb dX0_leaveMost_37 rfl (lv_at hl 0 rfl) ?_
            refine lv_dup hx hb dX0_leaveMost_38 rfl ?_
            refine va_get (D := E.1) (cl := vwCl) (ci := 0) (v := .int (iI r1)) (C := RX0) (T := TX0) (N := 10) hx hb hts hinX0 hown hK hP 0 rfl rfl 3 (by decide) hf_21 (fun _ h => h) rfl dX0_leaveMost_39 ?_
            refine lv_iconst (v := iI 1) hx hb dX0_leaveMost_42 (by decide) ?_
            refine z_iadd hx hb dX0_leaveMost_43 ?_
            refine va_put (D := E.1) (cl := vwCl) (ci := 0) (v := .int (iI (r1 + 1))) (ty := .int) (C := RX0) (T := TX0) (N := 10) hx hb hts hinX0 tyX0 tyX0_ok nmX0 hown hK hP hD hS 0 rfl rfl 3 (by decide) hf_21 (fun _ h => h) rfl (by decide +kernel) (rfl) (rfl) (Nat.le_of_ble_eq_true rfl) dX0_leaveMost_44 (fun H locs hP hD hS => ?_)
            have hP : va_P E.1 vwCl (wG E q ke ne s1 (r1 + 1) de nj mj da re jo) H := hP
            have hD : va_D A (wG E q ke ne s1 (r1 + 1) de nj mj da re jo) := hD
            refine lv_aload_n hx hb dX0_leaveMost_47 rfl (lv_at hl 0 rfl) ?_
            refine lv_dup hx hb dX0_leaveMost_48 rfl ?_
            refine va_get (D := E.1) (cl := vwCl) (ci := 0) (v := .int (iI s1)) (C := RX0) (T := TX0) (N := 10) hx hb hts hinX0 hown hK hP 0 rfl rfl 2 (by decide) hf_18 (fun _ h => h) rfl dX0_leaveMost_49 ?_
            refine lv_iconst (v := iI 1) hx hb dX0_leaveMost_52 (by decide) ?_
            refine z_isub hx hb dX0_leaveMost_53 ?_
            refine va_put (D := E.1) (cl := vwCl) (ci := 0) (v := .int (iI (s1 - 1))) (ty := .int) (C := RX0) (T := TX0) (N := 10) hx hb hts hinX0 tyX0 tyX0_ok nmX0 hown hK hP hD hS 0 rfl rfl 2 (by decide) hf_18 (fun _ h => h) rfl (by decide +kernel) (rfl) (rfl) (Nat.le_of_ble_eq_true rfl) dX0_leaveMost_54 (fun H locs hP hD hS => ?_)
            have hP : va_P E.1 vwCl (wG E q ke ne (s1 - 1) (r1 + 1) de nj mj da re jo) H := hP
            have hD : va_D A (wG E q ke ne (s1 - 1) (r1 + 1) de nj mj da re jo) := hD
            refine lv_goto (tgt := 0) hx hb dX0_leaveMost_57 (by decide) ?_
            exact ih0 ((s1 - 1) : Int).toNat (by omega) (s1 - 1) (r1 + 1) (by omega) (by first | (exfalso; omega) | (rw [← hi0_0, cLv_step (si := s1) (ro := r1) (by omega)]; first | rw [if_pos c_34, Int.add_zero] | rw [if_neg c_34])) (by omega) _ _ ls hP hD hS (lv_sub hl [0, 1] rfl)
        · refine lv_aload_n hx hb dX0_leaveMost_15 rfl (lv_at hl 0 rfl) ?_
          refine lv_aload_n hx hb dX0_leaveMost_16 rfl (lv_at hl 0 rfl) ?_
          refine z_callV0 (ci := 0) (qk := 0) (As := []) (rest := [.ref (q 0)]) hx hb hml hown hts hK hA hl.1 hP hD hS (c_X0_oldest l E q da re jo ke ne s1 r1 de nj mj   ) gX0_leaveMost_X0_oldest rfl ndX0_oldest ⟨Nat.le_of_ble_eq_true rfl, Nat.le_of_ble_eq_true rfl⟩ rfl rfl rfl rfl rfl (Nat.le_of_ble_eq_true rfl) dX0_leaveMost_17 ⟨Nat.le_of_ble_eq_true rfl, Nat.le_of_ble_eq_true rfl⟩ (fun x u H locs hpost hP hD hS => ?_)
          subst hpost
          have hP : va_P E.1 vwCl (wG E q ke ne s1 r1 de nj mj da re jo) H := hP
          have hD : va_D A (wG E q ke ne s1 r1 de nj mj da re jo) := hD
          refine z_callV0 (ci := 0) (qk := 0) (As := [.int (iI (ne - s1 + 1))]) (rest := []) hx hb hml hown hts hK hA hl.1 hP hD hS (c_X0_isHole l E q da re jo ke ne s1 r1 de nj mj (ne - s1 + 1)  (by first | omega | exact hz | exact hz _ (by omega) (by omega) | exact ⟨by omega, by omega⟩)) gX0_leaveMost_X0_isHole rfl ndX0_isHole ⟨Nat.le_of_ble_eq_true rfl, Nat.le_of_ble_eq_true rfl⟩ rfl rfl rfl rfl rfl (Nat.le_of_ble_eq_true rfl) dX0_leaveMost_20 ⟨Nat.le_of_ble_eq_true rfl, Nat.le_of_ble_eq_true rfl⟩ (fun x u H locs hpost hP hD hS => ?_)
          subst hpost
          have hP : va_P E.1 vwCl (wG E q ke ne s1 r1 de nj mj da re jo) H := hP
          have hD : va_D A (wG E q ke ne s1 r1 de nj mj da re jo) := hD
          refine z_ifb_eq (tgt := 60) hx hb dX0_leaveMost_23 (by decide) (fun c_23 => ?_) (fun c_23 => ?_)
          · have eqc_si : ((cL da ne mo si ro).1) = s1 := by rw [← hi0_0, cLv_stop (by omega)]
            have eqc_ro : ((cL da ne mo si ro).2) = r1 := by rw [← hi0_0, cLv_stop (by omega)]
            have hP : va_P E.1 vwCl (wG E q ke ne ((cL da ne mo si ro).1) ((cL da ne mo si ro).2) de nj mj da re jo) H := by rw [eqc_si, eqc_ro]; exact hP
            have hD : va_D A (wG E q ke ne ((cL da ne mo si ro).1) ((cL da ne mo si ro).2) de nj mj da re jo) := by rw [eqc_si, eqc_ro]; exact hD
            exact z_vret hx hb hr hlocks hK hS () (by first | rfl | trivial | exact zb_t' (by omega) | exact zb_f' (by omega) | omega) hP hD dX0_leaveMost_60
          · refine lv_aload_n hx hb dX0_leaveMost_26 rfl (lv_at hl 0 rfl) ?_
            refine lv_aload_n hx hb dX0_leaveMost_27 rfl (lv_at hl 0 rfl) ?_
            refine z_callV0 (ci := 0) (qk := 0) (As := []) (rest := [.ref (q 0)]) hx hb hml hown hts hK hA hl.1 hP hD hS (c_X0_oldest l E q da re jo ke ne s1 r1 de nj mj   ) gX0_leaveMost_X0_oldest rfl ndX0_oldest ⟨Nat.le_of_ble_eq_true rfl, Nat.le_of_ble_eq_true rfl⟩ rfl rfl rfl rfl rfl (Nat.le_of_ble_eq_true rfl) dX0_leaveMost_28 ⟨Nat.le_of_ble_eq_true rfl, Nat.le_of_ble_eq_true rfl⟩ (fun x u H locs hpost hP hD hS => ?_)
            subst hpost
            have hP : va_P E.1 vwCl (wG E q ke ne s1 r1 de nj mj da re jo) H := hP
            have hD : va_D A (wG E q ke ne s1 r1 de nj mj da re jo) := hD
            refine z_callV0 (ci := 0) (qk := 0) (As := [.int (iI (ne - s1 + 1))]) (rest := []) hx hb hml hown hts hK hA hl.1 hP hD hS (c_X0_isHole l E q da re jo ke ne s1 r1 de nj mj (ne - s1 + 1)  (by first | omega | exact hz | exact hz _ (by omega) (by omega) | exact ⟨by omega, by omega⟩)) gX0_leaveMost_X0_isHole rfl ndX0_isHole ⟨Nat.le_of_ble_eq_true rfl, Nat.le_of_ble_eq_true rfl⟩ rfl rfl rfl rfl rfl (Nat.le_of_ble_eq_true rfl) dX0_leaveMost_31 ⟨Nat.le_of_ble_eq_true rfl, Nat.le_of_ble_eq_true rfl⟩ (fun x u H locs hpost hP hD hS => ?_)
            subst hpost
            have hP : va_P E.1 vwCl (wG E q ke ne s1 r1 de nj mj da re jo) H := hP
            have hD : va_D A (wG E q ke ne s1 r1 de nj mj da re jo) := hD
            refine z_ifb_ne (tgt := 47) hx hb dX0_leaveMost_34 (by decide) (fun c_34 => ?_) (fun c_34 => ?_)
            · refine lv_aload_n hx hb dX0_leaveMost_47 rfl (lv_at hl 0 rfl) ?_
              refine lv_dup hx hb dX0_leaveMost_48 rfl ?_
              refine va_get (D := E.1) (cl := vwCl) (ci := 0) (v := .int (iI s1)) (C := RX0) (T := TX0) (N := 10) hx hb hts hinX0 hown hK hP 0 rfl rfl 2 (by decide) hf_18 (fun _ h => h) rfl dX0_leaveMost_49 ?_
              refine lv_iconst (v := iI 1) hx hb dX0_leaveMost_52 (by decide) ?_
              refine z_isub hx hb dX0_leaveMost_53 ?_
              refine va_put (D := E.1) (cl := vwCl) (ci := 0) (v := .int (iI (s1 - 1))) (ty := .int) (C := RX0) (T := TX0) (N := 10) hx hb hts hinX0 tyX0 tyX0_ok nmX0 hown hK hP hD hS 0 rfl rfl 2 (by decide) hf_18 (fun _ h => h) rfl (by decide +kernel) (rfl) (rfl) (Nat.le_of_ble_eq_true rfl) dX0_leaveMost_54 (fun H locs hP hD hS => ?_)
              have hP : va_P E.1 vwCl (wG E q ke ne (s1 - 1) r1 de nj mj da re jo) H := hP
              have hD : va_D A (wG E q ke ne (s1 - 1) r1 de nj mj da re jo) := hD
              refine lv_goto (tgt := 0) hx hb dX0_leaveMost_57 (by decide) ?_
              exact ih0 ((s1 - 1) : Int).toNat (by omega) (s1 - 1) r1 (by omega) (by first | (exfalso; omega) | (rw [← hi0_0, cLv_step (si := s1) (ro := r1) (by omega)]; first | rw [if_pos c_34, Int.add_zero] | rw [if_neg c_34])) (by omega) _ _ ls hP hD hS (lv_sub hl [0, 1] rfl)
            · refine lv_aload_n hx hb dX0_leaveMost_37 rfl (lv_at hl 0 rfl) ?_
              refine lv_dup hx hb dX0_leaveMost_38 rfl ?_
              refine va_get (D := E.1) (cl := vwCl) (ci := 0) (v := .int (iI r1)) (C := RX0) (T := TX0) (N := 10) hx hb hts hinX0 hown hK hP 0 rfl rfl 3 (by decide) hf_21 (fun _ h => h) rfl dX0_leaveMost_39 ?_
              refine lv_iconst (v := iI 1) hx hb dX0_leaveMost_42 (by decide) ?_
              refine z_iadd hx hb dX0_leaveMost_43 ?_
              refine va_put (D := E.1) (cl := vwCl) (ci := 0) (v := .int (iI (r1 + 1))) (ty := .int) (C := RX0) (T := TX0) (N := 10) hx hb hts hinX0 tyX0 tyX0_ok nmX0 hown hK hP hD hS 0 rfl rfl 3 (by decide) hf_21 (fun _ h => h) rfl (by decide +kernel) (rfl) (rfl) (Nat.le_of_ble_eq_true rfl) dX0_leaveMost_44 (fun H locs hP hD hS => ?_)
              have hP : va_P E.1 vwCl (wG E q ke ne s1 (r1 + 1) de nj mj da re jo) H := hP
              have hD : va_D A (wG E q ke ne s1 (r1 + 1) de nj mj da re jo) := hD
              refine lv_aload_n hx hb dX0_leaveMost_47 rfl (lv_at hl 0 rfl) ?_
              refine lv_dup hx hb dX0_leaveMost_48 rfl ?_
              refine va_get (D := E.1) (cl := vwCl) (ci := 0) (v := .int (iI s1)) (C := RX0) (T := TX0) (N := 10) hx hb hts hinX0 hown hK hP 0 rfl rfl 2 (by decide) hf_18 (fun _ h => h) rfl dX0_leaveMost_49 ?_
              refine lv_iconst (v := iI 1) hx hb dX0_leaveMost_52 (by decide) ?_
              refine z_isub hx hb dX0_leaveMost_53 ?_
              refine va_put (D := E.1) (cl := vwCl) (ci := 0) (v := .int (iI (s1 - 1))) (ty := .int) (C := RX0) (T := TX0) (N := 10) hx hb hts hinX0 tyX0 tyX0_ok nmX0 hown hK hP hD hS 0 rfl rfl 2 (by decide) hf_18 (fun _ h => h) rfl (by decide +kernel) (rfl) (rfl) (Nat.le_of_ble_eq_true rfl) dX0_leaveMost_54 (fun H locs hP hD hS => ?_)
              have hP : va_P E.1 vwCl (wG E q ke ne (s1 - 1) (r1 + 1) de nj mj da re jo) H := hP
              have hD : va_D A (wG E q ke ne (s1 - 1) (r1 + 1) de nj mj da re jo) := hD
              refine lv_goto (tgt := 0) hx hb dX0_leaveMost_57 (by decide) ?_
              exact ih0 ((s1 - 1) : Int).toNat (by omega) (s1 - 1) (r1 + 1) (by omega) (by first | (exfalso; omega) | (rw [← hi0_0, cLv_step (si := s1) (ro := r1) (by omega)]; first | rw [if_pos c_34, Int.add_zero] | rw [if_neg c_34])) (by omega) _ _ ls hP hD hS (lv_sub hl [0, 1] rfl)
  exact hloop0 (si : Int).toNat si ro (by omega) (rfl) (by omega) _ _ ls hP hD hS (lv_sub hl [0, 1] rfl)

theorem ndX0_make : yX0_make.cls = RX0 ∧ yX0_make.cls ≠ "java/lang/invoke/MethodHandle" ∧ yX0_make.cls ≠ "java/lang/invoke/VarHandle" ∧ (parseMethodDescriptor yX0_make.desc).map (fun d => d.parameters.length) = some 2 := by decide +kernel
set_option maxRecDepth 100000 in
set_option maxHeartbeats 1000000 in
theorem c_X0_make (l : Launch) (E : zE) (q : Nat → Nat) (da re jo : Int → Int) (ke ne si ro de nj mj : Int) (d : Int) (j : Int) (h0 : 0 ≤ ne ∧ ne ≤ 2000000000) (h1 : 0 ≤ si ∧ si ≤ 8) (h2 : ∀ j : Int, 0 ≤ j → j < 8 → rg (da j)) (h3 : 1 ≤ ke ∧ ke ≤ 8) : zF l E yX0_make wsX0_make 2 42 [.ref (q 0), .int (iI d), .int (iI j)] (wG E q ke ne si ro de nj mj da re jo) (ne + 1) (wG E q ke (ne + 1) ((cL da ne (ke - 1) si ro).1 + 1) ((cL da ne (ke - 1) si ro).2) de nj (ne + 1) (iU da ((ne + 1) % 8) d) (iU re ((ne + 1) % 8) 0) (iU jo ((ne + 1) % 8) j)) := by
  have hz := h2
  refine zC_of (cc := cX0_make) (maxL := 4) (by decide) rfl (Nat.le_of_ble_eq_true rfl) ?_
  intro p e s m below meth c ls A hx hb hr hts hown hlocks hml hK hA hS hP hD hl
  have hown : s.vm.findClass RX0 = some m.cls := hown
  have hl : lv_has ls 4 [(0, .ref (q 0)), (1, .int (iI d)), (2, .int (iI j))] := hl
  have hinX0 : ∀ v ∈ u_ws RX0 TX0 10, v ∈ wsX0_make := by decide +kernel
  have hf_9 := hts (.fieldLink RX0 9 "GenerationNames$Group" "keep" "I") (by decide +kernel)
  have hf_15 := hts (.fieldLink RX0 15 "GenerationNames$Group" "newest" "I") (by decide +kernel)
  have hf_18 := hts (.fieldLink RX0 18 "GenerationNames$Group" "size" "I") (by decide +kernel)
  have hf_33 := hts (.fieldLink RX0 33 "GenerationNames$Group" "data" "[I") (by decide +kernel)
  have hf_37 := hts (.fieldLink RX0 37 "GenerationNames$Group" "reads" "[I") (by decide +kernel)
  have hf_40 := hts (.fieldLink RX0 40 "GenerationNames$Group" "jobs" "[I") (by decide +kernel)
  have hf_30 := hts (.fieldLink RX0 30 "GenerationNames$Group" "madeByJob" "I") (by decide +kernel)
  refine lv_aload_n hx hb dX0_make_0 rfl (lv_at hl 0 rfl) ?_
  refine lv_aload_n hx hb dX0_make_1 rfl (lv_at hl 0 rfl) ?_
  refine va_get (D := E.1) (cl := vwCl) (ci := 0) (v := .int (iI ke)) (C := RX0) (T := TX0) (N := 10) hx hb hts hinX0 hown hK hP 0 rfl rfl 0 (by decide) hf_9 (fun _ h => h) rfl dX0_make_2 ?_
  refine lv_iconst (v := iI 1) hx hb dX0_make_5 (by decide) ?_
  refine z_isub hx hb dX0_make_6 ?_
  refine z_callVv0 (ci := 0) (qk := 0) (As := [.int (iI (ke - 1))]) (rest := []) hx hb hml hown hts hK hA hl.1 hP hD hS (c_X0_leaveMost l E q da re jo ke ne si ro de nj mj (ke - 1)  (by first | omega | exact hz | exact hz _ (by omega) (by omega) | exact ⟨by omega, by omega⟩) (by first | omega | exact hz | exact hz _ (by omega) (by omega) | exact ⟨by omega, by omega⟩) (by first | omega | exact hz | exact hz _ (by omega) (by omega) | exact ⟨by omega, by omega⟩) (by first | omega | exact hz | exact hz _ (by omega) (by omega) | exact ⟨by omega, by omega⟩)) gX0_make_X0_leaveMost rfl ndX0_leaveMost ⟨Nat.le_of_ble_eq_true rfl, Nat.le_of_ble_eq_true rfl⟩ rfl rfl rfl rfl rfl (Nat.le_of_ble_eq_true rfl) dX0_make_7 ⟨Nat.le_of_ble_eq_true rfl, Nat.le_of_ble_eq_true rfl⟩ (fun u H locs hpost hP hD hS => ?_)
  have hP : va_P E.1 vwCl (wG E q ke ne ((cL da ne (ke - 1) si ro).1) ((cL da ne (ke - 1) si ro).2) de nj mj da re jo) H := hP
  have hD : va_D A (wG E q ke ne ((cL da ne (ke - 1) si ro).1) ((cL da ne (ke - 1) si ro).2) de nj mj da re jo) := hD
  refine lv_aload_n hx hb dX0_make_10 rfl (lv_at hl 0 rfl) ?_
  refine lv_dup hx hb dX0_make_11 rfl ?_
  refine va_get (D := E.1) (cl := vwCl) (ci := 0) (v := .int (iI ne)) (C := RX0) (T := TX0) (N := 10) hx hb hts hinX0 hown hK hP 0 rfl rfl 1 (by decide) hf_15 (fun _ h => h) rfl dX0_make_12 ?_
  refine lv_iconst (v := iI 1) hx hb dX0_make_15 (by decide) ?_
  refine z_iadd hx hb dX0_make_16 ?_
  refine va_put (D := E.1) (cl := vwCl) (ci := 0) (v := .int (iI (ne + 1))) (ty := .int) (C := RX0) (T := TX0) (N := 10) hx hb hts hinX0 tyX0 tyX0_ok nmX0 hown hK hP hD hS 0 rfl rfl 1 (by decide) hf_15 (fun _ h => h) rfl (by decide +kernel) (rfl) (rfl) (Nat.le_of_ble_eq_true rfl) dX0_make_17 (fun H locs hP hD hS => ?_)
  have hP : va_P E.1 vwCl (wG E q ke (ne + 1) ((cL da ne (ke - 1) si ro).1) ((cL da ne (ke - 1) si ro).2) de nj mj da re jo) H := hP
  have hD : va_D A (wG E q ke (ne + 1) ((cL da ne (ke - 1) si ro).1) ((cL da ne (ke - 1) si ro).2) de nj mj da re jo) := hD
  refine lv_aload_n hx hb dX0_make_20 rfl (lv_at hl 0 rfl) ?_
  refine lv_dup hx hb dX0_make_21 rfl ?_
  refine va_get (D := E.1) (cl := vwCl) (ci := 0) (v := .int (iI ((cL da ne (ke - 1) si ro).1))) (C := RX0) (T := TX0) (N := 10) hx hb hts hinX0 hown hK hP 0 rfl rfl 2 (by decide) hf_18 (fun _ h => h) rfl dX0_make_22 ?_
  refine lv_iconst (v := iI 1) hx hb dX0_make_25 (by decide) ?_
  refine z_iadd hx hb dX0_make_26 ?_
  refine va_put (D := E.1) (cl := vwCl) (ci := 0) (v := .int (iI (((cL da ne (ke - 1) si ro).1) + 1))) (ty := .int) (C := RX0) (T := TX0) (N := 10) hx hb hts hinX0 tyX0 tyX0_ok nmX0 hown hK hP hD hS 0 rfl rfl 2 (by decide) hf_18 (fun _ h => h) rfl (by decide +kernel) (rfl) (rfl) (Nat.le_of_ble_eq_true rfl) dX0_make_27 (fun H locs hP hD hS => ?_)
  have hP : va_P E.1 vwCl (wG E q ke (ne + 1) (((cL da ne (ke - 1) si ro).1) + 1) ((cL da ne (ke - 1) si ro).2) de nj mj da re jo) H := hP
  have hD : va_D A (wG E q ke (ne + 1) (((cL da ne (ke - 1) si ro).1) + 1) ((cL da ne (ke - 1) si ro).2) de nj mj da re jo) := hD
  refine lv_aload_n hx hb dX0_make_30 rfl (lv_at hl 0 rfl) ?_
  refine va_get (D := E.1) (cl := vwCl) (ci := 0) (v := .int (iI (ne + 1))) (C := RX0) (T := TX0) (N := 10) hx hb hts hinX0 hown hK hP 0 rfl rfl 1 (by decide) hf_15 (fun _ h => h) rfl dX0_make_31 ?_
  refine lv_bipush (v := iI 7) hx hb dX0_make_34 (by decide) ?_
  refine z_iand7 hx hb dX0_make_36 ?_
  refine lv_istore_n (lv' := [(3, .int (iI ((ne + 1) % 8))), (0, .ref (q 0)), (1, .int (iI d)), (2, .int (iI j))]) hx hb dX0_make_37 rfl hl (by decide) rfl (fun ls hl => ?_)
  refine lv_aload_n hx hb dX0_make_38 rfl (lv_at hl 1 rfl) ?_
  refine va_get (D := E.1) (cl := vwCl) (ci := 0) (v := .ref (q 1)) (C := RX0) (T := TX0) (N := 10) hx hb hts hinX0 hown hK hP 0 rfl rfl 7 (by decide) hf_33 (fun _ h => h) rfl dX0_make_39 ?_
  refine lv_iload_n hx hb dX0_make_42 rfl (lv_at hl 0 rfl) ?_
  refine lv_iload_n hx hb dX0_make_43 rfl (lv_at hl 2 rfl) ?_
  refine z_iast (D := E.1) (cl := vwCl) (tys := zT E) (f := da) hx hb hK hP hD hS 1 0 rfl rfl (by omega) (by omega) (by omega) dX0_make_44 (fun H locs hP hD hS => ?_)
  have hP : va_P E.1 vwCl (wG E q ke (ne + 1) (((cL da ne (ke - 1) si ro).1) + 1) ((cL da ne (ke - 1) si ro).2) de nj mj (iU da ((ne + 1) % 8) d) re jo) H := hP
  have hD : va_D A (wG E q ke (ne + 1) (((cL da ne (ke - 1) si ro).1) + 1) ((cL da ne (ke - 1) si ro).2) de nj mj (iU da ((ne + 1) % 8) d) re jo) := hD
  refine lv_aload_n hx hb dX0_make_45 rfl (lv_at hl 1 rfl) ?_
  refine va_get (D := E.1) (cl := vwCl) (ci := 0) (v := .ref (q 2)) (C := RX0) (T := TX0) (N := 10) hx hb hts hinX0 hown hK hP 0 rfl rfl 8 (by decide) hf_37 (fun _ h => h) rfl dX0_make_46 ?_
  refine lv_iload_n hx hb dX0_make_49 rfl (lv_at hl 0 rfl) ?_
  refine lv_iconst (v := iI 0) hx hb dX0_make_50 (by decide) ?_
  refine z_iast (D := E.1) (cl := vwCl) (tys := zT E) (f := re) hx hb hK hP hD hS 2 0 rfl rfl (by omega) (by omega) (by omega) dX0_make_51 (fun H locs hP hD hS => ?_)
  have hP : va_P E.1 vwCl (wG E q ke (ne + 1) (((cL da ne (ke - 1) si ro).1) + 1) ((cL da ne (ke - 1) si ro).2) de nj mj (iU da ((ne + 1) % 8) d) (iU re ((ne + 1) % 8) 0) jo) H := hP
  have hD : va_D A (wG E q ke (ne + 1) (((cL da ne (ke - 1) si ro).1) + 1) ((cL da ne (ke - 1) si ro).2) de nj mj (iU da ((ne + 1) % 8) d) (iU re ((ne + 1) % 8) 0) jo) := hD
  refine lv_aload_n hx hb dX0_make_52 rfl (lv_at hl 1 rfl) ?_
  refine va_get (D := E.1) (cl := vwCl) (ci := 0) (v := .ref (q 3)) (C := RX0) (T := TX0) (N := 10) hx hb hts hinX0 hown hK hP 0 rfl rfl 9 (by decide) hf_40 (fun _ h => h) rfl dX0_make_53 ?_
  refine lv_iload_n hx hb dX0_make_56 rfl (lv_at hl 0 rfl) ?_
  refine lv_iload_n hx hb dX0_make_57 rfl (lv_at hl 3 rfl) ?_
  refine z_iast (D := E.1) (cl := vwCl) (tys := zT E) (f := jo) hx hb hK hP hD hS 3 0 rfl rfl (by omega) (by omega) (by omega) dX0_make_58 (fun H locs hP hD hS => ?_)
  have hP : va_P E.1 vwCl (wG E q ke (ne + 1) (((cL da ne (ke - 1) si ro).1) + 1) ((cL da ne (ke - 1) si ro).2) de nj mj (iU da ((ne + 1) % 8) d) (iU re ((ne + 1) % 8) 0) (iU jo ((ne + 1) % 8) j)) H := hP
  have hD : va_D A (wG E q ke (ne + 1) (((cL da ne (ke - 1) si ro).1) + 1) ((cL da ne (ke - 1) si ro).2) de nj mj (iU da ((ne + 1) % 8) d) (iU re ((ne + 1) % 8) 0) (iU jo ((ne + 1) % 8) j)) := hD
  refine lv_aload_n hx hb dX0_make_59 rfl (lv_at hl 1 rfl) ?_
  refine lv_aload_n hx hb dX0_make_60 rfl (lv_at hl 1 rfl) ?_
  refine va_get (D := E.1) (cl := vwCl) (ci := 0) (v := .int (iI (ne + 1))) (C := RX0) (T := TX0) (N := 10) hx hb hts hinX0 hown hK hP 0 rfl rfl 1 (by decide) hf_15 (fun _ h => h) rfl dX0_make_61 ?_
  refine va_put (D := E.1) (cl := vwCl) (ci := 0) (v := .int (iI (ne + 1))) (ty := .int) (C := RX0) (T := TX0) (N := 10) hx hb hts hinX0 tyX0 tyX0_ok nmX0 hown hK hP hD hS 0 rfl rfl 6 (by decide) hf_30 (fun _ h => h) rfl (by decide +kernel) (rfl) (rfl) (Nat.le_of_ble_eq_true rfl) dX0_make_64 (fun H locs hP hD hS => ?_)
  have hP : va_P E.1 vwCl (wG E q ke (ne + 1) (((cL da ne (ke - 1) si ro).1) + 1) ((cL da ne (ke - 1) si ro).2) de nj (ne + 1) (iU da ((ne + 1) % 8) d) (iU re ((ne + 1) % 8) 0) (iU jo ((ne + 1) % 8) j)) H := hP
  have hD : va_D A (wG E q ke (ne + 1) (((cL da ne (ke - 1) si ro).1) + 1) ((cL da ne (ke - 1) si ro).2) de nj (ne + 1) (iU da ((ne + 1) % 8) d) (iU re ((ne + 1) % 8) 0) (iU jo ((ne + 1) % 8) j)) := hD
  refine lv_aload_n hx hb dX0_make_67 rfl (lv_at hl 1 rfl) ?_
  refine va_get (D := E.1) (cl := vwCl) (ci := 0) (v := .int (iI (ne + 1))) (C := RX0) (T := TX0) (N := 10) hx hb hts hinX0 hown hK hP 0 rfl rfl 1 (by decide) hf_15 (fun _ h => h) rfl dX0_make_68 ?_
  exact z_iret hx hb hr hlocks hK hS () (by first | rfl | trivial | exact zb_t' (by omega) | exact zb_f' (by omega) | omega) hP hD dX0_make_71

theorem ndX0_makeHole : yX0_makeHole.cls = RX0 ∧ yX0_makeHole.cls ≠ "java/lang/invoke/MethodHandle" ∧ yX0_makeHole.cls ≠ "java/lang/invoke/VarHandle" ∧ (parseMethodDescriptor yX0_makeHole.desc).map (fun d => d.parameters.length) = some 1 := by decide +kernel
set_option maxRecDepth 100000 in
set_option maxHeartbeats 1000000 in
theorem c_X0_makeHole (l : Launch) (E : zE) (q : Nat → Nat) (da re jo : Int → Int) (ke ne si ro de nj mj : Int) (sr : Int) (h0 : 0 ≤ ne ∧ ne ≤ 2000000000) (h1 : 0 ≤ si ∧ si ≤ 8) (h2 : ∀ j : Int, 0 ≤ j → j < 8 → rg (da j)) (h3 : 1 ≤ ke ∧ ke ≤ 8) : zFv l E yX0_makeHole wsX0_makeHole 2 42 [.ref (q 0), .int (iI sr)] (wG E q ke ne si ro de nj mj da re jo) (wG E q ke ne ((cL (iU da (sr % 8) (-6)) ne ke si ro).1) ((cL (iU da (sr % 8) (-6)) ne ke si ro).2) (de + 1) nj mj (iU da (sr % 8) (-6)) re jo) := by
  have hz : DGr (iU da (sr % 8) (-6)) := DGr_iU h2 ⟨by omega, by omega⟩
  refine zCv_of (cc := cX0_makeHole) (maxL := 2) (by decide) rfl (Nat.le_of_ble_eq_true rfl) ?_
  intro p e s m below meth c ls A hx hb hr hts hown hlocks hml hK hA hS hP hD hl
  have hown : s.vm.findClass RX0 = some m.cls := hown
  have hl : lv_has ls 2 [(0, .ref (q 0)), (1, .int (iI sr))] := hl
  have hinX0 : ∀ v ∈ u_ws RX0 TX0 10, v ∈ wsX0_makeHole := by decide +kernel
  have hf_33 := hts (.fieldLink RX0 33 "GenerationNames$Group" "data" "[I") (by decide +kernel)
  have hf_24 := hts (.fieldLink RX0 24 "GenerationNames$Group" "deleted" "I") (by decide +kernel)
  have hf_9 := hts (.fieldLink RX0 9 "GenerationNames$Group" "keep" "I") (by decide +kernel)
  refine lv_aload_n hx hb dX0_makeHole_0 rfl (lv_at hl 0 rfl) ?_
  refine va_get (D := E.1) (cl := vwCl) (ci := 0) (v := .ref (q 1)) (C := RX0) (T := TX0) (N := 10) hx hb hts hinX0 hown hK hP 0 rfl rfl 7 (by decide) hf_33 (fun _ h => h) rfl dX0_makeHole_1 ?_
  refine lv_iload_n hx hb dX0_makeHole_4 rfl (lv_at hl 1 rfl) ?_
  refine lv_bipush (v := iI 7) hx hb dX0_makeHole_5 (by decide) ?_
  refine z_iand7 hx hb dX0_makeHole_7 ?_
  refine lv_bipush (v := iI (-6)) hx hb dX0_makeHole_8 (by decide) ?_
  refine z_iast (D := E.1) (cl := vwCl) (tys := zT E) (f := da) hx hb hK hP hD hS 1 0 rfl rfl (by omega) (by omega) (by omega) dX0_makeHole_10 (fun H locs hP hD hS => ?_)
  have hP : va_P E.1 vwCl (wG E q ke ne si ro de nj mj (iU da (sr % 8) (-6)) re jo) H := hP
  have hD : va_D A (wG E q ke ne si ro de nj mj (iU da (sr % 8) (-6)) re jo) := hD
  refine lv_aload_n hx hb dX0_makeHole_11 rfl (lv_at hl 0 rfl) ?_
  refine lv_dup hx hb dX0_makeHole_12 rfl ?_
  refine va_get (D := E.1) (cl := vwCl) (ci := 0) (v := .int (iI de)) (C := RX0) (T := TX0) (N := 10) hx hb hts hinX0 hown hK hP 0 rfl rfl 4 (by decide) hf_24 (fun _ h => h) rfl dX0_makeHole_13 ?_
  refine lv_iconst (v := iI 1) hx hb dX0_makeHole_16 (by decide) ?_
  refine z_iadd hx hb dX0_makeHole_17 ?_
  refine va_put (D := E.1) (cl := vwCl) (ci := 0) (v := .int (iI (de + 1))) (ty := .int) (C := RX0) (T := TX0) (N := 10) hx hb hts hinX0 tyX0 tyX0_ok nmX0 hown hK hP hD hS 0 rfl rfl 4 (by decide) hf_24 (fun _ h => h) rfl (by decide +kernel) (rfl) (rfl) (Nat.le_of_ble_eq_true rfl) dX0_makeHole_18 (fun H locs hP hD hS => ?_)
  have hP : va_P E.1 vwCl (wG E q ke ne si ro (de + 1) nj mj (iU da (sr % 8) (-6)) re jo) H := hP
  have hD : va_D A (wG E q ke ne si ro (de + 1) nj mj (iU da (sr % 8) (-6)) re jo) := hD
  refine lv_aload_n hx hb dX0_makeHole_21 rfl (lv_at hl 0 rfl) ?_
  refine lv_aload_n hx hb dX0_makeHole_22 rfl (lv_at hl 0 rfl) ?_
  refine va_get (D := E.1) (cl := vwCl) (ci := 0) (v := .int (iI ke)) (C := RX0) (T := TX0) (N := 10) hx hb hts hinX0 hown hK hP 0 rfl rfl 0 (by decide) hf_9 (fun _ h => h) rfl dX0_makeHole_23 ?_
  refine z_callVv0 (ci := 0) (qk := 0) (As := [.int (iI ke)]) (rest := []) hx hb hml hown hts hK hA hl.1 hP hD hS (c_X0_leaveMost l E q (iU da (sr % 8) (-6)) re jo ke ne si ro (de + 1) nj mj ke  (by first | omega | exact hz | exact hz _ (by omega) (by omega) | exact ⟨by omega, by omega⟩) (by first | omega | exact hz | exact hz _ (by omega) (by omega) | exact ⟨by omega, by omega⟩) (by first | omega | exact hz | exact hz _ (by omega) (by omega) | exact ⟨by omega, by omega⟩) (by first | omega | exact hz | exact hz _ (by omega) (by omega) | exact ⟨by omega, by omega⟩)) gX0_makeHole_X0_leaveMost rfl ndX0_leaveMost ⟨Nat.le_of_ble_eq_true rfl, Nat.le_of_ble_eq_true rfl⟩ rfl rfl rfl rfl rfl (Nat.le_of_ble_eq_true rfl) dX0_makeHole_26 ⟨Nat.le_of_ble_eq_true rfl, Nat.le_of_ble_eq_true rfl⟩ (fun u H locs hpost hP hD hS => ?_)
  have hP : va_P E.1 vwCl (wG E q ke ne ((cL (iU da (sr % 8) (-6)) ne ke si ro).1) ((cL (iU da (sr % 8) (-6)) ne ke si ro).2) (de + 1) nj mj (iU da (sr % 8) (-6)) re jo) H := hP
  have hD : va_D A (wG E q ke ne ((cL (iU da (sr % 8) (-6)) ne ke si ro).1) ((cL (iU da (sr % 8) (-6)) ne ke si ro).2) (de + 1) nj mj (iU da (sr % 8) (-6)) re jo) := hD
  exact z_vret hx hb hr hlocks hK hS () (by first | rfl | trivial | exact zb_t' (by omega) | exact zb_f' (by omega) | omega) hP hD dX0_makeHole_29

theorem ndX0_countHoles : yX0_countHoles.cls = RX0 ∧ yX0_countHoles.cls ≠ "java/lang/invoke/MethodHandle" ∧ yX0_countHoles.cls ≠ "java/lang/invoke/VarHandle" ∧ (parseMethodDescriptor yX0_countHoles.desc).map (fun d => d.parameters.length) = some 0 := by decide +kernel
set_option maxRecDepth 100000 in
set_option maxHeartbeats 1000000 in
theorem c_X0_countHoles (l : Launch) (E : zE) (q : Nat → Nat) (da re jo : Int → Int) (ke ne si ro de nj mj : Int) (h0 : 0 ≤ ne ∧ ne ≤ 2000000000) (h1 : 0 ≤ si ∧ si ≤ 8) (h2 : ∀ j : Int, 0 ≤ j → j < 8 → rg (da j)) : zF l E yX0_countHoles wsX0_countHoles 1 21 [.ref (q 0)] (wG E q ke ne si ro de nj mj da re jo) (cHo ne si da) (wG E q ke ne si ro de nj mj da re jo) := by
  have hz := h2
  refine zC_of (cc := cX0_countHoles) (maxL := 3) (by decide) rfl (Nat.le_of_ble_eq_true rfl) ?_
  intro p e s m below meth c ls A hx hb hr hts hown hlocks hml hK hA hS hP hD hl
  have hown : s.vm.findClass RX0 = some m.cls := hown
  have hl : lv_has ls 3 [(0, .ref (q 0))] := hl
  have hinX0 : ∀ v ∈ u_ws RX0 TX0 10, v ∈ wsX0_countHoles := by decide +kernel
  have hf_18 := hts (.fieldLink RX0 18 "GenerationNames$Group" "size" "I") (by decide +kernel)
  have hf_15 := hts (.fieldLink RX0 15 "GenerationNames$Group" "newest" "I") (by decide +kernel)
  refine lv_iconst (v := iI 0) hx hb dX0_countHoles_0 (by decide) ?_
  refine lv_istore_n (lv' := [(1, .int (iI 0)), (0, .ref (q 0))]) hx hb dX0_countHoles_1 rfl hl (by decide) rfl (fun ls hl => ?_)
  refine lv_iconst (v := iI 0) hx hb dX0_countHoles_2 (by decide) ?_
  refine lv_istore_n (lv' := [(2, .int (iI 0)), (1, .int (iI 0)), (0, .ref (q 0))]) hx hb dX0_countHoles_3 rfl hl (by decide) rfl (fun ls hl => ?_)
  have hloop4 : ∀ (n : Nat) (n1 : Int) (i1 : Int) (hmu : si - i1 = (n : Int)) (hi4_0 : n1 = itr (fun k n => n + (if da ((ne - k) % 8) = -6 then 1 else 0)) 0 (i1).toNat) (hi4_1 : 0 ≤ i1 ∧ i1 ≤ si) (H : Heap) (locs : List Loc) (ls : Array Slot), va_P E.1 vwCl (wG E q ke ne si ro de nj mj da re jo) H → va_D A (wG E q ke ne si ro de nj mj da re jo) → va_S A s.heap H locs → lv_has ls 3 [(2, .int (iI i1)), (1, .int (iI n1)), (0, .ref (q 0))] → W p l e (zR 1 21) s m ([.ref (q 0)] : List Value).toArray below meth c H locs 0 0 (MQ below (zQ E A (S := Unit) (fun x _ => x = (cHo ne si da)) (fun _ => wG E q ke ne si ro de nj mj da re jo)) ([.ref (q 0)] : List Value).toArray s 0 0 A) (F0 m 4 ls []) := by
    intro n
    induction n using Nat.strongRecOn with
    | ind n ih4 =>
      intro n1 i1 hmu4 hi4_0 hi4_1 H locs ls hP hD hS hl
      refine lv_iload_n hx hb dX0_countHoles_4 rfl (lv_at hl 0 rfl) ?_
      refine lv_aload_n hx hb dX0_countHoles_5 rfl (lv_at hl 2 rfl) ?_
      refine va_get (D := E.1) (cl := vwCl) (ci := 0) (v := .int (iI si)) (C := RX0) (T := TX0) (N := 10) hx hb hts hinX0 hown hK hP 0 rfl rfl 2 (by decide) hf_18 (fun _ h => h) rfl dX0_countHoles_6 ?_
      refine z_icmp_ge (tgt := 34) hx hb dX0_countHoles_9 (by decide) ⟨by first | omega | exact (hz _ (by omega) (by omega)).1 | exact (hz _ (by omega) (by omega)).2, by first | omega | exact (hz _ (by omega) (by omega)).1 | exact (hz _ (by omega) (by omega)).2⟩ ⟨by first | omega | exact (hz _ (by omega) (by omega)).1 | exact (hz _ (by omega) (by omega)).2, by first | omega | exact (hz _ (by omega) (by omega)).1 | exact (hz _ (by omega) (by omega)).2⟩ (fun c_9 => ?_) (fun c_9 => ?_)
      · refine lv_iload_n hx hb dX0_countHoles_34 rfl (lv_at hl 1 rfl) ?_
        exact z_iret hx hb hr hlocks hK hS () (by rw [hi4_0, show i1 = si by omega]; rfl) hP hD dX0_countHoles_35
      · refine lv_aload_n hx hb dX0_countHoles_12 rfl (lv_at hl 2 rfl) ?_
        refine lv_aload_n hx hb dX0_countHoles_13 rfl (lv_at hl 2 rfl) ?_
        refine va_get (D := E.1) (cl := vwCl) (ci := 0) (v := .int (iI ne)) (C := RX0) (T := TX0) (N := 10) hx hb hts hinX0 hown hK hP 0 rfl rfl 1 (by decide) hf_15 (fun _ h => h) rfl dX0_countHoles_14 ?_
        refine lv_iload_n hx hb dX0_countHoles_17 rfl (lv_at hl 0 rfl) ?_
        refine z_isub hx hb dX0_countHoles_18 ?_
        refine z_callV0 (ci := 0) (qk := 0) (As := [.int (iI (ne - i1))]) (rest := []) hx hb hml hown hts hK hA hl.1 hP hD hS (c_X0_isHole l E q da re jo ke ne si ro de nj mj (ne - i1)  (by first | omega | exact hz | exact hz _ (by omega) (by omega) | exact ⟨by omega, by omega⟩)) gX0_countHoles_X0_isHole rfl ndX0_isHole ⟨Nat.le_of_ble_eq_true rfl, Nat.le_of_ble_eq_true rfl⟩ rfl rfl rfl rfl rfl (Nat.le_of_ble_eq_true rfl) dX0_countHoles_19 ⟨Nat.le_of_ble_eq_true rfl, Nat.le_of_ble_eq_true rfl⟩ (fun x u H locs hpost hP hD hS => ?_)
        subst hpost
        have hP : va_P E.1 vwCl (wG E q ke ne si ro de nj mj da re jo) H := hP
        have hD : va_D A (wG E q ke ne si ro de nj mj da re jo) := hD
        refine z_ifb_eq (tgt := 28) hx hb dX0_countHoles_22 (by decide) (fun c_22 => ?_) (fun c_22 => ?_)
        · refine lv_iinc (v := iI (i1 + 1)) (lv' := [(2, .int (iI (i1 + 1))), (1, .int (iI n1)), (0, .ref (q 0))]) hx hb dX0_countHoles_28 hl (k := 0) rfl (iI_add _ _) (by decide) rfl (fun ls hl => ?_)
          refine lv_goto (tgt := 4) hx hb dX0_countHoles_31 (by decide) ?_
          exact ih4 (si - (i1 + 1) : Int).toNat (by omega) n1 (i1 + 1) (by omega) (by rw [itr_step (by omega), ← hi4_0]; first | rw [if_pos c_22] | rw [if_neg c_22, Int.add_zero]) (by omega) _ _ ls hP hD hS (lv_sub hl [0, 1, 2] rfl)
        · refine lv_iinc (v := iI (n1 + 1)) (lv' := [(1, .int (iI (n1 + 1))), (2, .int (iI i1)), (0, .ref (q 0))]) hx hb dX0_countHoles_25 hl (k := 1) rfl (iI_add _ _) (by decide) rfl (fun ls hl => ?_)
          refine lv_iinc (v := iI (i1 + 1)) (lv' := [(2, .int (iI (i1 + 1))), (1, .int (iI (n1 + 1))), (0, .ref (q 0))]) hx hb dX0_countHoles_28 hl (k := 1) rfl (iI_add _ _) (by decide) rfl (fun ls hl => ?_)
          refine lv_goto (tgt := 4) hx hb dX0_countHoles_31 (by decide) ?_
          exact ih4 (si - (i1 + 1) : Int).toNat (by omega) (n1 + 1) (i1 + 1) (by omega) (by rw [itr_step (by omega), ← hi4_0]; first | rw [if_pos c_22] | rw [if_neg c_22, Int.add_zero]) (by omega) _ _ ls hP hD hS (lv_sub hl [0, 1, 2] rfl)
  exact hloop4 (si - 0 : Int).toNat 0 0 (by omega) (rfl) (by omega) _ _ ls hP hD hS (lv_sub hl [0, 1, 2] rfl)

theorem ndX0_sumOfData : yX0_sumOfData.cls = RX0 ∧ yX0_sumOfData.cls ≠ "java/lang/invoke/MethodHandle" ∧ yX0_sumOfData.cls ≠ "java/lang/invoke/VarHandle" ∧ (parseMethodDescriptor yX0_sumOfData.desc).map (fun d => d.parameters.length) = some 0 := by decide +kernel
set_option maxRecDepth 100000 in
set_option maxHeartbeats 1000000 in
theorem c_X0_sumOfData (l : Launch) (E : zE) (q : Nat → Nat) (da re jo : Int → Int) (ke ne si ro de nj mj : Int) (h0 : 0 ≤ ne ∧ ne ≤ 2000000000) (h1 : 0 ≤ si ∧ si ≤ 8) (h2 : ∀ j : Int, 0 ≤ j → j < 8 → rg (da j)) : zF l E yX0_sumOfData wsX0_sumOfData 1 21 [.ref (q 0)] (wG E q ke ne si ro de nj mj da re jo) (cSu ne si da) (wG E q ke ne si ro de nj mj da re jo) := by
  have hz := h2
  refine zC_of (cc := cX0_sumOfData) (maxL := 3) (by decide) rfl (Nat.le_of_ble_eq_true rfl) ?_
  intro p e s m below meth c ls A hx hb hr hts hown hlocks hml hK hA hS hP hD hl
  have hown : s.vm.findClass RX0 = some m.cls := hown
  have hl : lv_has ls 3 [(0, .ref (q 0))] := hl
  have hinX0 : ∀ v ∈ u_ws RX0 TX0 10, v ∈ wsX0_sumOfData := by decide +kernel
  have hf_18 := hts (.fieldLink RX0 18 "GenerationNames$Group" "size" "I") (by decide +kernel)
  have hf_15 := hts (.fieldLink RX0 15 "GenerationNames$Group" "newest" "I") (by decide +kernel)
  have hf_33 := hts (.fieldLink RX0 33 "GenerationNames$Group" "data" "[I") (by decide +kernel)
  refine lv_iconst (v := iI 0) hx hb dX0_sumOfData_0 (by decide) ?_
  refine lv_istore_n (lv' := [(1, .int (iI 0)), (0, .ref (q 0))]) hx hb dX0_sumOfData_1 rfl hl (by decide) rfl (fun ls hl => ?_)
  refine lv_iconst (v := iI 0) hx hb dX0_sumOfData_2 (by decide) ?_
  refine lv_istore_n (lv' := [(2, .int (iI 0)), (1, .int (iI 0)), (0, .ref (q 0))]) hx hb dX0_sumOfData_3 rfl hl (by decide) rfl (fun ls hl => ?_)
  have hloop4 : ∀ (n : Nat) (n1 : Int) (i1 : Int) (hmu : si - i1 = (n : Int)) (hi4_0 : n1 = itr (fun k n => if da ((ne - k) % 8) = -6 then n else n + da ((ne - k) % 8)) 0 (i1).toNat) (hi4_1 : 0 ≤ i1 ∧ i1 ≤ si) (H : Heap) (locs : List Loc) (ls : Array Slot), va_P E.1 vwCl (wG E q ke ne si ro de nj mj da re jo) H → va_D A (wG E q ke ne si ro de nj mj da re jo) → va_S A s.heap H locs → lv_has ls 3 [(2, .int (iI i1)), (1, .int (iI n1)), (0, .ref (q 0))] → W p l e (zR 1 21) s m ([.ref (q 0)] : List Value).toArray below meth c H locs 0 0 (MQ below (zQ E A (S := Unit) (fun x _ => x = (cSu ne si da)) (fun _ => wG E q ke ne si ro de nj mj da re jo)) ([.ref (q 0)] : List Value).toArray s 0 0 A) (F0 m 4 ls []) := by
    intro n
    induction n using Nat.strongRecOn with
    | ind n ih4 =>
      intro n1 i1 hmu4 hi4_0 hi4_1 H locs ls hP hD hS hl
      refine lv_iload_n hx hb dX0_sumOfData_4 rfl (lv_at hl 0 rfl) ?_
      refine lv_aload_n hx hb dX0_sumOfData_5 rfl (lv_at hl 2 rfl) ?_
      refine va_get (D := E.1) (cl := vwCl) (ci := 0) (v := .int (iI si)) (C := RX0) (T := TX0) (N := 10) hx hb hts hinX0 hown hK hP 0 rfl rfl 2 (by decide) hf_18 (fun _ h => h) rfl dX0_sumOfData_6 ?_
      refine z_icmp_ge (tgt := 48) hx hb dX0_sumOfData_9 (by decide) ⟨by first | omega | exact (hz _ (by omega) (by omega)).1 | exact (hz _ (by omega) (by omega)).2, by first | omega | exact (hz _ (by omega) (by omega)).1 | exact (hz _ (by omega) (by omega)).2⟩ ⟨by first | omega | exact (hz _ (by omega) (by omega)).1 | exact (hz _ (by omega) (by omega)).2, by first | omega | exact (hz _ (by omega) (by omega)).1 | exact (hz _ (by omega) (by omega)).2⟩ (fun c_9 => ?_) (fun c_9 => ?_)
      · refine lv_iload_n hx hb dX0_sumOfData_48 rfl (lv_at hl 1 rfl) ?_
        exact z_iret hx hb hr hlocks hK hS () (by rw [hi4_0, show i1 = si by omega]; rfl) hP hD dX0_sumOfData_49
      · refine lv_aload_n hx hb dX0_sumOfData_12 rfl (lv_at hl 2 rfl) ?_
        refine lv_aload_n hx hb dX0_sumOfData_13 rfl (lv_at hl 2 rfl) ?_
        refine va_get (D := E.1) (cl := vwCl) (ci := 0) (v := .int (iI ne)) (C := RX0) (T := TX0) (N := 10) hx hb hts hinX0 hown hK hP 0 rfl rfl 1 (by decide) hf_15 (fun _ h => h) rfl dX0_sumOfData_14 ?_
        refine lv_iload_n hx hb dX0_sumOfData_17 rfl (lv_at hl 0 rfl) ?_
        refine z_isub hx hb dX0_sumOfData_18 ?_
        refine z_callV0 (ci := 0) (qk := 0) (As := [.int (iI (ne - i1))]) (rest := []) hx hb hml hown hts hK hA hl.1 hP hD hS (c_X0_isHole l E q da re jo ke ne si ro de nj mj (ne - i1)  (by first | omega | exact hz | exact hz _ (by omega) (by omega) | exact ⟨by omega, by omega⟩)) gX0_sumOfData_X0_isHole rfl ndX0_isHole ⟨Nat.le_of_ble_eq_true rfl, Nat.le_of_ble_eq_true rfl⟩ rfl rfl rfl rfl rfl (Nat.le_of_ble_eq_true rfl) dX0_sumOfData_19 ⟨Nat.le_of_ble_eq_true rfl, Nat.le_of_ble_eq_true rfl⟩ (fun x u H locs hpost hP hD hS => ?_)
        subst hpost
        have hP : va_P E.1 vwCl (wG E q ke ne si ro de nj mj da re jo) H := hP
        have hD : va_D A (wG E q ke ne si ro de nj mj da re jo) := hD
        refine z_ifb_ne (tgt := 42) hx hb dX0_sumOfData_22 (by decide) (fun c_22 => ?_) (fun c_22 => ?_)
        · refine lv_iinc (v := iI (i1 + 1)) (lv' := [(2, .int (iI (i1 + 1))), (1, .int (iI n1)), (0, .ref (q 0))]) hx hb dX0_sumOfData_42 hl (k := 0) rfl (iI_add _ _) (by decide) rfl (fun ls hl => ?_)
          refine lv_goto (tgt := 4) hx hb dX0_sumOfData_45 (by decide) ?_
          exact ih4 (si - (i1 + 1) : Int).toNat (by omega) n1 (i1 + 1) (by omega) (by rw [itr_step (by omega), ← hi4_0]; first | rw [if_pos c_22] | rw [if_neg c_22]) (by omega) _ _ ls hP hD hS (lv_sub hl [0, 1, 2] rfl)
        · refine lv_iload_n hx hb dX0_sumOfData_25 rfl (lv_at hl 1 rfl) ?_
          refine lv_aload_n hx hb dX0_sumOfData_26 rfl (lv_at hl 2 rfl) ?_
          refine va_get (D := E.1) (cl := vwCl) (ci := 0) (v := .ref (q 1)) (C := RX0) (T := TX0) (N := 10) hx hb hts hinX0 hown hK hP 0 rfl rfl 7 (by decide) hf_33 (fun _ h => h) rfl dX0_sumOfData_27 ?_
          refine lv_aload_n hx hb dX0_sumOfData_30 rfl (lv_at hl 2 rfl) ?_
          refine va_get (D := E.1) (cl := vwCl) (ci := 0) (v := .int (iI ne)) (C := RX0) (T := TX0) (N := 10) hx hb hts hinX0 hown hK hP 0 rfl rfl 1 (by decide) hf_15 (fun _ h => h) rfl dX0_sumOfData_31 ?_
          refine lv_iload_n hx hb dX0_sumOfData_34 rfl (lv_at hl 0 rfl) ?_
          refine z_isub hx hb dX0_sumOfData_35 ?_
          refine lv_bipush (v := iI 7) hx hb dX0_sumOfData_36 (by decide) ?_
          refine z_iand7 hx hb dX0_sumOfData_38 ?_
          refine z_iald (D := E.1) (cl := vwCl) (tys := zT E) (f := da) hx hb hK hP 1 0 rfl rfl (by omega) (by omega) (by omega) dX0_sumOfData_39 ?_
          refine z_iadd hx hb dX0_sumOfData_40 ?_
          refine lv_istore_n (lv' := [(1, .int (iI (n1 + (da ((ne - i1) % 8))))), (2, .int (iI i1)), (0, .ref (q 0))]) hx hb dX0_sumOfData_41 rfl hl (by decide) rfl (fun ls hl => ?_)
          refine lv_iinc (v := iI (i1 + 1)) (lv' := [(2, .int (iI (i1 + 1))), (1, .int (iI (n1 + (da ((ne - i1) % 8))))), (0, .ref (q 0))]) hx hb dX0_sumOfData_42 hl (k := 1) rfl (iI_add _ _) (by decide) rfl (fun ls hl => ?_)
          refine lv_goto (tgt := 4) hx hb dX0_sumOfData_45 (by decide) ?_
          exact ih4 (si - (i1 + 1) : Int).toNat (by omega) (n1 + (da ((ne - i1) % 8))) (i1 + 1) (by omega) (by rw [itr_step (by omega), ← hi4_0]; first | rw [if_pos c_22] | rw [if_neg c_22]) (by omega) _ _ ls hP hD hS (lv_sub hl [0, 1, 2] rfl)
  exact hloop4 (si - 0 : Int).toNat 0 0 (by omega) (rfl) (by omega) _ _ ls hP hD hS (lv_sub hl [0, 1, 2] rfl)

theorem ndX0_copyFrom : yX0_copyFrom.cls = RX0 ∧ yX0_copyFrom.cls ≠ "java/lang/invoke/MethodHandle" ∧ yX0_copyFrom.cls ≠ "java/lang/invoke/VarHandle" ∧ (parseMethodDescriptor yX0_copyFrom.desc).map (fun d => d.parameters.length) = some 1 := by decide +kernel
set_option maxRecDepth 100000 in
set_option maxHeartbeats 1000000 in
theorem c_X0_copyFrom (l : Launch) (E : zE) (q : Nat → Nat) (da re jo da2 re2 jo2 : Int → Int) (ke ne si ro de nj mj ke2 ne2 si2 ro2 de2 nj2 mj2 : Int) (q2 : Nat → Nat) : zFv l E yX0_copyFrom wsX0_copyFrom 1 60 [.ref (q 0), .ref (q2 0)] (wGG E q q2 ke ne si ro de nj mj da re jo ke2 ne2 si2 ro2 de2 nj2 mj2 da2 re2 jo2) (wGG E q q2 ke2 ne2 si2 ro2 de2 nj2 mj2 (cpy8 da2 da) (cpy8 re2 re) (cpy8 jo2 jo) ke2 ne2 si2 ro2 de2 nj2 mj2 da2 re2 jo2) := by
  refine zCv_of (cc := cX0_copyFrom) (maxL := 2) (by decide) rfl (Nat.le_of_ble_eq_true rfl) ?_
  intro p e s m below meth c ls A hx hb hr hts hown hlocks hml hK hA hS hP hD hl
  have hown : s.vm.findClass RX0 = some m.cls := hown
  have hl : lv_has ls 2 [(0, .ref (q 0)), (1, .ref (q2 0))] := hl
  have hinX0 : ∀ v ∈ u_ws RX0 TX0 10, v ∈ wsX0_copyFrom := by decide +kernel
  have hf_9 := hts (.fieldLink RX0 9 "GenerationNames$Group" "keep" "I") (by decide +kernel)
  have hf_15 := hts (.fieldLink RX0 15 "GenerationNames$Group" "newest" "I") (by decide +kernel)
  have hf_18 := hts (.fieldLink RX0 18 "GenerationNames$Group" "size" "I") (by decide +kernel)
  have hf_21 := hts (.fieldLink RX0 21 "GenerationNames$Group" "rolledOff" "I") (by decide +kernel)
  have hf_24 := hts (.fieldLink RX0 24 "GenerationNames$Group" "deleted" "I") (by decide +kernel)
  have hf_27 := hts (.fieldLink RX0 27 "GenerationNames$Group" "newestForJob" "I") (by decide +kernel)
  have hf_30 := hts (.fieldLink RX0 30 "GenerationNames$Group" "madeByJob" "I") (by decide +kernel)
  have hf_33 := hts (.fieldLink RX0 33 "GenerationNames$Group" "data" "[I") (by decide +kernel)
  have hf_37 := hts (.fieldLink RX0 37 "GenerationNames$Group" "reads" "[I") (by decide +kernel)
  have hf_40 := hts (.fieldLink RX0 40 "GenerationNames$Group" "jobs" "[I") (by decide +kernel)
  refine lv_aload_n hx hb dX0_copyFrom_0 rfl (lv_at hl 0 rfl) ?_
  refine lv_aload_n hx hb dX0_copyFrom_1 rfl (lv_at hl 1 rfl) ?_
  refine va_get (D := E.1) (cl := vwCl) (ci := 0) (v := .int (iI ke2)) (C := RX0) (T := TX0) (N := 10) hx hb hts hinX0 hown hK hP 4 rfl rfl 0 (by decide) hf_9 (fun _ h => h) rfl dX0_copyFrom_2 ?_
  refine va_put (D := E.1) (cl := vwCl) (ci := 0) (v := .int (iI ke2)) (ty := .int) (C := RX0) (T := TX0) (N := 10) hx hb hts hinX0 tyX0 tyX0_ok nmX0 hown hK hP hD hS 0 rfl rfl 0 (by decide) hf_9 (fun _ h => h) rfl (by decide +kernel) (rfl) (rfl) (Nat.le_of_ble_eq_true rfl) dX0_copyFrom_5 (fun H locs hP hD hS => ?_)
  have hP : va_P E.1 vwCl (wGG E q q2 ke2 ne si ro de nj mj da re jo ke2 ne2 si2 ro2 de2 nj2 mj2 da2 re2 jo2) H := hP
  have hD : va_D A (wGG E q q2 ke2 ne si ro de nj mj da re jo ke2 ne2 si2 ro2 de2 nj2 mj2 da2 re2 jo2) := hD
  refine lv_aload_n hx hb dX0_copyFrom_8 rfl (lv_at hl 0 rfl) ?_
  refine lv_aload_n hx hb dX0_copyFrom_9 rfl (lv_at hl 1 rfl) ?_
  refine va_get (D := E.1) (cl := vwCl) (ci := 0) (v := .int (iI ne2)) (C := RX0) (T := TX0) (N := 10) hx hb hts hinX0 hown hK hP 4 rfl rfl 1 (by decide) hf_15 (fun _ h => h) rfl dX0_copyFrom_10 ?_
  refine va_put (D := E.1) (cl := vwCl) (ci := 0) (v := .int (iI ne2)) (ty := .int) (C := RX0) (T := TX0) (N := 10) hx hb hts hinX0 tyX0 tyX0_ok nmX0 hown hK hP hD hS 0 rfl rfl 1 (by decide) hf_15 (fun _ h => h) rfl (by decide +kernel) (rfl) (rfl) (Nat.le_of_ble_eq_true rfl) dX0_copyFrom_13 (fun H locs hP hD hS => ?_)
  have hP : va_P E.1 vwCl (wGG E q q2 ke2 ne2 si ro de nj mj da re jo ke2 ne2 si2 ro2 de2 nj2 mj2 da2 re2 jo2) H := hP
  have hD : va_D A (wGG E q q2 ke2 ne2 si ro de nj mj da re jo ke2 ne2 si2 ro2 de2 nj2 mj2 da2 re2 jo2) := hD
  refine lv_aload_n hx hb dX0_copyFrom_16 rfl (lv_at hl 0 rfl) ?_
  refine lv_aload_n hx hb dX0_copyFrom_17 rfl (lv_at hl 1 rfl) ?_
  refine va_get (D := E.1) (cl := vwCl) (ci := 0) (v := .int (iI si2)) (C := RX0) (T := TX0) (N := 10) hx hb hts hinX0 hown hK hP 4 rfl rfl 2 (by decide) hf_18 (fun _ h => h) rfl dX0_copyFrom_18 ?_
  refine va_put (D := E.1) (cl := vwCl) (ci := 0) (v := .int (iI si2)) (ty := .int) (C := RX0) (T := TX0) (N := 10) hx hb hts hinX0 tyX0 tyX0_ok nmX0 hown hK hP hD hS 0 rfl rfl 2 (by decide) hf_18 (fun _ h => h) rfl (by decide +kernel) (rfl) (rfl) (Nat.le_of_ble_eq_true rfl) dX0_copyFrom_21 (fun H locs hP hD hS => ?_)
  have hP : va_P E.1 vwCl (wGG E q q2 ke2 ne2 si2 ro de nj mj da re jo ke2 ne2 si2 ro2 de2 nj2 mj2 da2 re2 jo2) H := hP
  have hD : va_D A (wGG E q q2 ke2 ne2 si2 ro de nj mj da re jo ke2 ne2 si2 ro2 de2 nj2 mj2 da2 re2 jo2) := hD
  refine lv_aload_n hx hb dX0_copyFrom_24 rfl (lv_at hl 0 rfl) ?_
  refine lv_aload_n hx hb dX0_copyFrom_25 rfl (lv_at hl 1 rfl) ?_
  refine va_get (D := E.1) (cl := vwCl) (ci := 0) (v := .int (iI ro2)) (C := RX0) (T := TX0) (N := 10) hx hb hts hinX0 hown hK hP 4 rfl rfl 3 (by decide) hf_21 (fun _ h => h) rfl dX0_copyFrom_26 ?_
  refine va_put (D := E.1) (cl := vwCl) (ci := 0) (v := .int (iI ro2)) (ty := .int) (C := RX0) (T := TX0) (N := 10) hx hb hts hinX0 tyX0 tyX0_ok nmX0 hown hK hP hD hS 0 rfl rfl 3 (by decide) hf_21 (fun _ h => h) rfl (by decide +kernel) (rfl) (rfl) (Nat.le_of_ble_eq_true rfl) dX0_copyFrom_29 (fun H locs hP hD hS => ?_)
  have hP : va_P E.1 vwCl (wGG E q q2 ke2 ne2 si2 ro2 de nj mj da re jo ke2 ne2 si2 ro2 de2 nj2 mj2 da2 re2 jo2) H := hP
  have hD : va_D A (wGG E q q2 ke2 ne2 si2 ro2 de nj mj da re jo ke2 ne2 si2 ro2 de2 nj2 mj2 da2 re2 jo2) := hD
  refine lv_aload_n hx hb dX0_copyFrom_32 rfl (lv_at hl 0 rfl) ?_
  refine lv_aload_n hx hb dX0_copyFrom_33 rfl (lv_at hl 1 rfl) ?_
  refine va_get (D := E.1) (cl := vwCl) (ci := 0) (v := .int (iI de2)) (C := RX0) (T := TX0) (N := 10) hx hb hts hinX0 hown hK hP 4 rfl rfl 4 (by decide) hf_24 (fun _ h => h) rfl dX0_copyFrom_34 ?_
  refine va_put (D := E.1) (cl := vwCl) (ci := 0) (v := .int (iI de2)) (ty := .int) (C := RX0) (T := TX0) (N := 10) hx hb hts hinX0 tyX0 tyX0_ok nmX0 hown hK hP hD hS 0 rfl rfl 4 (by decide) hf_24 (fun _ h => h) rfl (by decide +kernel) (rfl) (rfl) (Nat.le_of_ble_eq_true rfl) dX0_copyFrom_37 (fun H locs hP hD hS => ?_)
  have hP : va_P E.1 vwCl (wGG E q q2 ke2 ne2 si2 ro2 de2 nj mj da re jo ke2 ne2 si2 ro2 de2 nj2 mj2 da2 re2 jo2) H := hP
  have hD : va_D A (wGG E q q2 ke2 ne2 si2 ro2 de2 nj mj da re jo ke2 ne2 si2 ro2 de2 nj2 mj2 da2 re2 jo2) := hD
  refine lv_aload_n hx hb dX0_copyFrom_40 rfl (lv_at hl 0 rfl) ?_
  refine lv_aload_n hx hb dX0_copyFrom_41 rfl (lv_at hl 1 rfl) ?_
  refine va_get (D := E.1) (cl := vwCl) (ci := 0) (v := .int (iI nj2)) (C := RX0) (T := TX0) (N := 10) hx hb hts hinX0 hown hK hP 4 rfl rfl 5 (by decide) hf_27 (fun _ h => h) rfl dX0_copyFrom_42 ?_
  refine va_put (D := E.1) (cl := vwCl) (ci := 0) (v := .int (iI nj2)) (ty := .int) (C := RX0) (T := TX0) (N := 10) hx hb hts hinX0 tyX0 tyX0_ok nmX0 hown hK hP hD hS 0 rfl rfl 5 (by decide) hf_27 (fun _ h => h) rfl (by decide +kernel) (rfl) (rfl) (Nat.le_of_ble_eq_true rfl) dX0_copyFrom_45 (fun H locs hP hD hS => ?_)
  have hP : va_P E.1 vwCl (wGG E q q2 ke2 ne2 si2 ro2 de2 nj2 mj da re jo ke2 ne2 si2 ro2 de2 nj2 mj2 da2 re2 jo2) H := hP
  have hD : va_D A (wGG E q q2 ke2 ne2 si2 ro2 de2 nj2 mj da re jo ke2 ne2 si2 ro2 de2 nj2 mj2 da2 re2 jo2) := hD
  refine lv_aload_n hx hb dX0_copyFrom_48 rfl (lv_at hl 0 rfl) ?_
  refine lv_aload_n hx hb dX0_copyFrom_49 rfl (lv_at hl 1 rfl) ?_
  refine va_get (D := E.1) (cl := vwCl) (ci := 0) (v := .int (iI mj2)) (C := RX0) (T := TX0) (N := 10) hx hb hts hinX0 hown hK hP 4 rfl rfl 6 (by decide) hf_30 (fun _ h => h) rfl dX0_copyFrom_50 ?_
  refine va_put (D := E.1) (cl := vwCl) (ci := 0) (v := .int (iI mj2)) (ty := .int) (C := RX0) (T := TX0) (N := 10) hx hb hts hinX0 tyX0 tyX0_ok nmX0 hown hK hP hD hS 0 rfl rfl 6 (by decide) hf_30 (fun _ h => h) rfl (by decide +kernel) (rfl) (rfl) (Nat.le_of_ble_eq_true rfl) dX0_copyFrom_53 (fun H locs hP hD hS => ?_)
  have hP : va_P E.1 vwCl (wGG E q q2 ke2 ne2 si2 ro2 de2 nj2 mj2 da re jo ke2 ne2 si2 ro2 de2 nj2 mj2 da2 re2 jo2) H := hP
  have hD : va_D A (wGG E q q2 ke2 ne2 si2 ro2 de2 nj2 mj2 da re jo ke2 ne2 si2 ro2 de2 nj2 mj2 da2 re2 jo2) := hD
  refine lv_aload_n hx hb dX0_copyFrom_56 rfl (lv_at hl 1 rfl) ?_
  refine va_get (D := E.1) (cl := vwCl) (ci := 0) (v := .ref (q2 1)) (C := RX0) (T := TX0) (N := 10) hx hb hts hinX0 hown hK hP 4 rfl rfl 7 (by decide) hf_33 (fun _ h => h) rfl dX0_copyFrom_57 ?_
  refine lv_iconst (v := iI 0) hx hb dX0_copyFrom_60 (by decide) ?_
  refine lv_aload_n hx hb dX0_copyFrom_61 rfl (lv_at hl 0 rfl) ?_
  refine va_get (D := E.1) (cl := vwCl) (ci := 0) (v := .ref (q 1)) (C := RX0) (T := TX0) (N := 10) hx hb hts hinX0 hown hK hP 0 rfl rfl 7 (by decide) hf_33 (fun _ h => h) rfl dX0_copyFrom_62 ?_
  refine lv_iconst (v := iI 0) hx hb dX0_copyFrom_65 (by decide) ?_
  refine lv_bipush (v := iI 8) hx hb dX0_copyFrom_66 (by decide) ?_
  refine va_copyi (D := E.1) (cl := vwCl) (tys := zT E) (f := fun j : Nat => iI (da2 j)) (g := fun j : Nat => iI (da j)) hx hb (by rw [hml]; exact hl.1.symm) hown (hts (.methodLink RX0 43 arraycopyName) (by decide +kernel)) (hts (.native arraycopyName) (by decide +kernel)) (hts (.static arraycopyName) (by decide +kernel)) (hts (.initialized "java/lang/System") (by decide +kernel)) hK hP hD hS 5 1 0 0 rfl rfl rfl rfl rfl (by decide) (by decide) (by decide) (by decide) (by decide) (fun _ _ => rfl) (Nat.le_of_ble_eq_true rfl) (Nat.le_of_ble_eq_true rfl) dX0_copyFrom_68 (fun H locs hP hD hS => ?_)
  rw [row_cpy8] at hP hD
  have hP : va_P E.1 vwCl (wGG E q q2 ke2 ne2 si2 ro2 de2 nj2 mj2 (cpy8 da2 da) re jo ke2 ne2 si2 ro2 de2 nj2 mj2 da2 re2 jo2) H := hP
  have hD : va_D A (wGG E q q2 ke2 ne2 si2 ro2 de2 nj2 mj2 (cpy8 da2 da) re jo ke2 ne2 si2 ro2 de2 nj2 mj2 da2 re2 jo2) := hD
  refine lv_aload_n hx hb dX0_copyFrom_71 rfl (lv_at hl 1 rfl) ?_
  refine va_get (D := E.1) (cl := vwCl) (ci := 0) (v := .ref (q2 2)) (C := RX0) (T := TX0) (N := 10) hx hb hts hinX0 hown hK hP 4 rfl rfl 8 (by decide) hf_37 (fun _ h => h) rfl dX0_copyFrom_72 ?_
  refine lv_iconst (v := iI 0) hx hb dX0_copyFrom_75 (by decide) ?_
  refine lv_aload_n hx hb dX0_copyFrom_76 rfl (lv_at hl 0 rfl) ?_
  refine va_get (D := E.1) (cl := vwCl) (ci := 0) (v := .ref (q 2)) (C := RX0) (T := TX0) (N := 10) hx hb hts hinX0 hown hK hP 0 rfl rfl 8 (by decide) hf_37 (fun _ h => h) rfl dX0_copyFrom_77 ?_
  refine lv_iconst (v := iI 0) hx hb dX0_copyFrom_80 (by decide) ?_
  refine lv_bipush (v := iI 8) hx hb dX0_copyFrom_81 (by decide) ?_
  refine va_copyi (D := E.1) (cl := vwCl) (tys := zT E) (f := fun j : Nat => iI (re2 j)) (g := fun j : Nat => iI (re j)) hx hb (by rw [hml]; exact hl.1.symm) hown (hts (.methodLink RX0 43 arraycopyName) (by decide +kernel)) (hts (.native arraycopyName) (by decide +kernel)) (hts (.static arraycopyName) (by decide +kernel)) (hts (.initialized "java/lang/System") (by decide +kernel)) hK hP hD hS 6 2 0 0 rfl rfl rfl rfl rfl (by decide) (by decide) (by decide) (by decide) (by decide) (fun _ _ => rfl) (Nat.le_of_ble_eq_true rfl) (Nat.le_of_ble_eq_true rfl) dX0_copyFrom_83 (fun H locs hP hD hS => ?_)
  rw [row_cpy8] at hP hD
  have hP : va_P E.1 vwCl (wGG E q q2 ke2 ne2 si2 ro2 de2 nj2 mj2 (cpy8 da2 da) (cpy8 re2 re) jo ke2 ne2 si2 ro2 de2 nj2 mj2 da2 re2 jo2) H := hP
  have hD : va_D A (wGG E q q2 ke2 ne2 si2 ro2 de2 nj2 mj2 (cpy8 da2 da) (cpy8 re2 re) jo ke2 ne2 si2 ro2 de2 nj2 mj2 da2 re2 jo2) := hD
  refine lv_aload_n hx hb dX0_copyFrom_86 rfl (lv_at hl 1 rfl) ?_
  refine va_get (D := E.1) (cl := vwCl) (ci := 0) (v := .ref (q2 3)) (C := RX0) (T := TX0) (N := 10) hx hb hts hinX0 hown hK hP 4 rfl rfl 9 (by decide) hf_40 (fun _ h => h) rfl dX0_copyFrom_87 ?_
  refine lv_iconst (v := iI 0) hx hb dX0_copyFrom_90 (by decide) ?_
  refine lv_aload_n hx hb dX0_copyFrom_91 rfl (lv_at hl 0 rfl) ?_
  refine va_get (D := E.1) (cl := vwCl) (ci := 0) (v := .ref (q 3)) (C := RX0) (T := TX0) (N := 10) hx hb hts hinX0 hown hK hP 0 rfl rfl 9 (by decide) hf_40 (fun _ h => h) rfl dX0_copyFrom_92 ?_
  refine lv_iconst (v := iI 0) hx hb dX0_copyFrom_95 (by decide) ?_
  refine lv_bipush (v := iI 8) hx hb dX0_copyFrom_96 (by decide) ?_
  refine va_copyi (D := E.1) (cl := vwCl) (tys := zT E) (f := fun j : Nat => iI (jo2 j)) (g := fun j : Nat => iI (jo j)) hx hb (by rw [hml]; exact hl.1.symm) hown (hts (.methodLink RX0 43 arraycopyName) (by decide +kernel)) (hts (.native arraycopyName) (by decide +kernel)) (hts (.static arraycopyName) (by decide +kernel)) (hts (.initialized "java/lang/System") (by decide +kernel)) hK hP hD hS 7 3 0 0 rfl rfl rfl rfl rfl (by decide) (by decide) (by decide) (by decide) (by decide) (fun _ _ => rfl) (Nat.le_of_ble_eq_true rfl) (Nat.le_of_ble_eq_true rfl) dX0_copyFrom_98 (fun H locs hP hD hS => ?_)
  rw [row_cpy8] at hP hD
  have hP : va_P E.1 vwCl (wGG E q q2 ke2 ne2 si2 ro2 de2 nj2 mj2 (cpy8 da2 da) (cpy8 re2 re) (cpy8 jo2 jo) ke2 ne2 si2 ro2 de2 nj2 mj2 da2 re2 jo2) H := hP
  have hD : va_D A (wGG E q q2 ke2 ne2 si2 ro2 de2 nj2 mj2 (cpy8 da2 da) (cpy8 re2 re) (cpy8 jo2 jo) ke2 ne2 si2 ro2 de2 nj2 mj2 da2 re2 jo2) := hD
  exact z_vret hx hb hr hlocks hK hS () (by first | rfl | trivial | exact zb_t' (by omega) | exact zb_f' (by omega) | omega) hP hD dX0_copyFrom_101
