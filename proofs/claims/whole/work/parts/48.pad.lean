theorem ndX1_size : yX1_size.cls = RX1 ∧ yX1_size.cls ≠ "java/lang/invoke/MethodHandle" ∧ yX1_size.cls ≠ "java/lang/invoke/VarHandle" ∧ (parseMethodDescriptor yX1_size.desc).map (fun d => d.parameters.length) = some 0 := by decide +kernel
set_option maxRecDepth 100000 in
set_option maxHeartbeats 1000000 in
theorem c_X1_size (l : Launch) (E : zE) (q : Nat → Nat) (sg : Int → Int) (le : Int) : zF l E yX1_size wsX1_size 0 0 [.ref (q 0)] (wPd E q sg le) le (wPd E q sg le) := by
  refine zC_of (cc := cX1_size) (maxL := 1) (by decide) rfl (Nat.le_of_ble_eq_true rfl) ?_
  intro p e s m below meth c ls A hx hb hr hts hown hlocks hml hK hA hS hP hD hl
  have hown : s.vm.findClass RX1 = some m.cls := hown
  have hl : lv_has ls 1 [(0, .ref (q 0))] := hl
  have hinX1 : ∀ v ∈ u_ws RX1 TX1 2, v ∈ wsX1_size := by decide +kernel
  have hf_15 := hts (.fieldLink RX1 15 "GenerationNames$Pad" "length" "I") (by decide +kernel)
  refine lv_aload_n hx hb dX1_size_0 rfl (lv_at hl 0 rfl) ?_
  refine va_get (D := E.1) (cl := vwCl) (ci := 1) (v := .int (iI le)) (C := RX1) (T := TX1) (N := 2) hx hb hts hinX1 hown hK hP 0 rfl rfl 1 (by decide) hf_15 (fun _ h => h) rfl dX1_size_1 ?_
  exact z_iret hx hb hr hlocks hK hS () (by first | rfl | trivial | exact zb_t' (by omega) | exact zb_f' (by omega) | omega) hP hD dX1_size_4

theorem ndX1_sign : yX1_sign.cls = RX1 ∧ yX1_sign.cls ≠ "java/lang/invoke/MethodHandle" ∧ yX1_sign.cls ≠ "java/lang/invoke/VarHandle" ∧ (parseMethodDescriptor yX1_sign.desc).map (fun d => d.parameters.length) = some 1 := by decide +kernel
set_option maxRecDepth 100000 in
set_option maxHeartbeats 1000000 in
theorem c_X1_sign (l : Launch) (E : zE) (q : Nat → Nat) (sg : Int → Int) (le : Int) (ps : Int) (h0 : PD sg le) (h1 : -100000 ≤ ps ∧ ps ≤ 100000) (h2 : 0 ≤ le ∧ le ≤ 80) : zF l E yX1_sign wsX1_sign 0 0 [.ref (q 0), .int (iI ps)] (wPd E q sg le) (Sg sg le ps) (wPd E q sg le) := by
  have hpd := h0
  refine zC_of (cc := cX1_sign) (maxL := 2) (by decide) rfl (Nat.le_of_ble_eq_true rfl) ?_
  intro p e s m below meth c ls A hx hb hr hts hown hlocks hml hK hA hS hP hD hl
  have hown : s.vm.findClass RX1 = some m.cls := hown
  have hl : lv_has ls 2 [(0, .ref (q 0)), (1, .int (iI ps))] := hl
  have hinX1 : ∀ v ∈ u_ws RX1 TX1 2, v ∈ wsX1_sign := by decide +kernel
  have hf_15 := hts (.fieldLink RX1 15 "GenerationNames$Pad" "length" "I") (by decide +kernel)
  have hf_9 := hts (.fieldLink RX1 9 "GenerationNames$Pad" "signs" "[C") (by decide +kernel)
  refine lv_iload_n hx hb dX1_sign_0 rfl (lv_at hl 1 rfl) ?_
  refine z_if_lt (tgt := 21) hx hb dX1_sign_1 (by decide) ⟨by omega, by omega⟩ (fun c_1 => ?_) (fun c_1 => ?_)
  · refine lv_iconst (v := iI 0) hx hb dX1_sign_21 (by decide) ?_
    exact z_iret hx hb hr hlocks hK hS () (by unfold Sg; (first | rw [if_pos (by omega)] | rw [if_neg (by omega)])) hP hD dX1_sign_22
  · refine lv_iload_n hx hb dX1_sign_4 rfl (lv_at hl 1 rfl) ?_
    refine lv_aload_n hx hb dX1_sign_5 rfl (lv_at hl 0 rfl) ?_
    refine va_get (D := E.1) (cl := vwCl) (ci := 1) (v := .int (iI le)) (C := RX1) (T := TX1) (N := 2) hx hb hts hinX1 hown hK hP 0 rfl rfl 1 (by decide) hf_15 (fun _ h => h) rfl dX1_sign_6 ?_
    refine z_icmp_ge (tgt := 21) hx hb dX1_sign_9 (by decide) ⟨by omega, by omega⟩ ⟨by omega, by omega⟩ (fun c_9 => ?_) (fun c_9 => ?_)
    · refine lv_iconst (v := iI 0) hx hb dX1_sign_21 (by decide) ?_
      exact z_iret hx hb hr hlocks hK hS () (by unfold Sg; (first | rw [if_pos (by omega)] | rw [if_neg (by omega)])) hP hD dX1_sign_22
    · refine lv_aload_n hx hb dX1_sign_12 rfl (lv_at hl 0 rfl) ?_
      refine va_get (D := E.1) (cl := vwCl) (ci := 1) (v := .ref (q 1)) (C := RX1) (T := TX1) (N := 2) hx hb hts hinX1 hown hK hP 0 rfl rfl 0 (by decide) hf_9 (fun _ h => h) rfl dX1_sign_13 ?_
      refine lv_iload_n hx hb dX1_sign_16 rfl (lv_at hl 1 rfl) ?_
      refine z_cald (D := E.1) (cl := vwCl) (tys := zT E) (f := sg) hx hb hK hP 1 2 rfl rfl (by omega) (by omega) (by omega) dX1_sign_17 ?_
      refine lv_goto (tgt := 22) hx hb dX1_sign_18 (by decide) ?_
      exact z_iret hx hb hr hlocks hK hS () (by unfold Sg; (first | rw [if_pos (by omega)] | rw [if_neg (by omega)])) hP hD dX1_sign_22

theorem ndX1_empty : yX1_empty.cls = RX1 ∧ yX1_empty.cls ≠ "java/lang/invoke/MethodHandle" ∧ yX1_empty.cls ≠ "java/lang/invoke/VarHandle" ∧ (parseMethodDescriptor yX1_empty.desc).map (fun d => d.parameters.length) = some 0 := by decide +kernel
set_option maxRecDepth 100000 in
set_option maxHeartbeats 1000000 in
theorem c_X1_empty (l : Launch) (E : zE) (q : Nat → Nat) (sg : Int → Int) (le : Int) : zF l E yX1_empty wsX1_empty 0 0 [.ref (q 0)] (wPd E q sg le) le (wPd E q sg 0) := by
  refine zC_of (cc := cX1_empty) (maxL := 2) (by decide) rfl (Nat.le_of_ble_eq_true rfl) ?_
  intro p e s m below meth c ls A hx hb hr hts hown hlocks hml hK hA hS hP hD hl
  have hown : s.vm.findClass RX1 = some m.cls := hown
  have hl : lv_has ls 2 [(0, .ref (q 0))] := hl
  have hinX1 : ∀ v ∈ u_ws RX1 TX1 2, v ∈ wsX1_empty := by decide +kernel
  have hf_15 := hts (.fieldLink RX1 15 "GenerationNames$Pad" "length" "I") (by decide +kernel)
  refine lv_aload_n hx hb dX1_empty_0 rfl (lv_at hl 0 rfl) ?_
  refine va_get (D := E.1) (cl := vwCl) (ci := 1) (v := .int (iI le)) (C := RX1) (T := TX1) (N := 2) hx hb hts hinX1 hown hK hP 0 rfl rfl 1 (by decide) hf_15 (fun _ h => h) rfl dX1_empty_1 ?_
  refine lv_istore_n (lv' := [(1, .int (iI le)), (0, .ref (q 0))]) hx hb dX1_empty_4 rfl hl (by decide) rfl (fun ls hl => ?_)
  refine lv_aload_n hx hb dX1_empty_5 rfl (lv_at hl 1 rfl) ?_
  refine lv_iconst (v := iI 0) hx hb dX1_empty_6 (by decide) ?_
  refine va_put (D := E.1) (cl := vwCl) (ci := 1) (v := .int (iI 0)) (ty := .int) (C := RX1) (T := TX1) (N := 2) hx hb hts hinX1 tyX1 tyX1_ok nmX1 hown hK hP hD hS 0 rfl rfl 1 (by decide) hf_15 (fun _ h => h) rfl (by decide +kernel) (rfl) (rfl) (Nat.le_of_ble_eq_true rfl) dX1_empty_7 (fun H locs hP hD hS => ?_)
  have hP : va_P E.1 vwCl (wPd E q sg 0) H := hP
  have hD : va_D A (wPd E q sg 0) := hD
  refine lv_iload_n hx hb dX1_empty_10 rfl (lv_at hl 0 rfl) ?_
  exact z_iret hx hb hr hlocks hK hS () (by first | rfl | trivial | exact zb_t' (by omega) | exact zb_f' (by omega) | omega) hP hD dX1_empty_11

theorem ndX1_placeBehindLetter : yX1_placeBehindLetter.cls = RX1 ∧ yX1_placeBehindLetter.cls ≠ "java/lang/invoke/MethodHandle" ∧ yX1_placeBehindLetter.cls ≠ "java/lang/invoke/VarHandle" ∧ (parseMethodDescriptor yX1_placeBehindLetter.desc).map (fun d => d.parameters.length) = some 1 := by decide +kernel
set_option maxRecDepth 100000 in
set_option maxHeartbeats 1000000 in
theorem c_X1_placeBehindLetter (l : Launch) (E : zE) (q : Nat → Nat) (sg : Int → Int) (le : Int) (k : Int) (h0 : 0 ≤ k ∧ k ≤ 127) : zF l E yX1_placeBehindLetter wsX1_placeBehindLetter 0 0 [.ref (q 0), .int (iI k)] (wPd E q sg le) (pL k) (wPd E q sg le) := by
  refine zC_of (cc := cX1_placeBehindLetter) (maxL := 2) (by decide) rfl (Nat.le_of_ble_eq_true rfl) ?_
  intro p e s m below meth c ls A hx hb hr hts hown hlocks hml hK hA hS hP hD hl
  have hown : s.vm.findClass RX1 = some m.cls := hown
  have hl : lv_has ls 2 [(0, .ref (q 0)), (1, .int (iI k))] := hl
  refine lv_iload_n hx hb dX1_placeBehindLetter_0 rfl (lv_at hl 1 rfl) ?_
  by_cases sw_1_0 : k = 97
  · refine lv_tableIn (off := 107) (tgt := 108) hx hb dX1_placeBehindLetter_1 (by rw [toInt_iI ⟨by omega, by omega⟩]; omega) (by rw [toInt_iI ⟨by omega, by omega⟩]; omega) (by rw [toInt_iI ⟨by omega, by omega⟩, sw_1_0]; rfl) (by decide) ?_
    refine lv_bipush (v := iI 13) hx hb dX1_placeBehindLetter_108 (by decide) ?_
    exact z_iret hx hb hr hlocks hK hS () (by unfold pL; (repeat (first | with_reducible rfl | rw [if_pos (by omega)] | rw [if_neg (by omega)]))) hP hD dX1_placeBehindLetter_110
  by_cases sw_1_1 : k = 100
  · refine lv_tableIn (off := 112) (tgt := 113) hx hb dX1_placeBehindLetter_1 (by rw [toInt_iI ⟨by omega, by omega⟩]; omega) (by rw [toInt_iI ⟨by omega, by omega⟩]; omega) (by rw [toInt_iI ⟨by omega, by omega⟩, sw_1_1]; rfl) (by decide) ?_
    refine lv_iconst (v := iI 2) hx hb dX1_placeBehindLetter_113 (by decide) ?_
    exact z_iret hx hb hr hlocks hK hS () (by unfold pL; (repeat (first | with_reducible rfl | rw [if_pos (by omega)] | rw [if_neg (by omega)]))) hP hD dX1_placeBehindLetter_114
  by_cases sw_1_2 : k = 102
  · refine lv_tableIn (off := 107) (tgt := 108) hx hb dX1_placeBehindLetter_1 (by rw [toInt_iI ⟨by omega, by omega⟩]; omega) (by rw [toInt_iI ⟨by omega, by omega⟩]; omega) (by rw [toInt_iI ⟨by omega, by omega⟩, sw_1_2]; rfl) (by decide) ?_
    refine lv_bipush (v := iI 13) hx hb dX1_placeBehindLetter_108 (by decide) ?_
    exact z_iret hx hb hr hlocks hK hS () (by unfold pL; (repeat (first | with_reducible rfl | rw [if_pos (by omega)] | rw [if_neg (by omega)]))) hP hD dX1_placeBehindLetter_110
  by_cases sw_1_3 : k = 103
  · refine lv_tableIn (off := 107) (tgt := 108) hx hb dX1_placeBehindLetter_1 (by rw [toInt_iI ⟨by omega, by omega⟩]; omega) (by rw [toInt_iI ⟨by omega, by omega⟩]; omega) (by rw [toInt_iI ⟨by omega, by omega⟩, sw_1_3]; rfl) (by decide) ?_
    refine lv_bipush (v := iI 13) hx hb dX1_placeBehindLetter_108 (by decide) ?_
    exact z_iret hx hb hr hlocks hK hS () (by unfold pL; (repeat (first | with_reducible rfl | rw [if_pos (by omega)] | rw [if_neg (by omega)]))) hP hD dX1_placeBehindLetter_110
  by_cases sw_1_4 : k = 106
  · refine lv_tableIn (off := 107) (tgt := 108) hx hb dX1_placeBehindLetter_1 (by rw [toInt_iI ⟨by omega, by omega⟩]; omega) (by rw [toInt_iI ⟨by omega, by omega⟩]; omega) (by rw [toInt_iI ⟨by omega, by omega⟩, sw_1_4]; rfl) (by decide) ?_
    refine lv_bipush (v := iI 13) hx hb dX1_placeBehindLetter_108 (by decide) ?_
    exact z_iret hx hb hr hlocks hK hS () (by unfold pL; (repeat (first | with_reducible rfl | rw [if_pos (by omega)] | rw [if_neg (by omega)]))) hP hD dX1_placeBehindLetter_110
  by_cases sw_1_5 : k = 114
  · refine lv_tableIn (off := 112) (tgt := 113) hx hb dX1_placeBehindLetter_1 (by rw [toInt_iI ⟨by omega, by omega⟩]; omega) (by rw [toInt_iI ⟨by omega, by omega⟩]; omega) (by rw [toInt_iI ⟨by omega, by omega⟩, sw_1_5]; rfl) (by decide) ?_
    refine lv_iconst (v := iI 2) hx hb dX1_placeBehindLetter_113 (by decide) ?_
    exact z_iret hx hb hr hlocks hK hS () (by unfold pL; (repeat (first | with_reducible rfl | rw [if_pos (by omega)] | rw [if_neg (by omega)]))) hP hD dX1_placeBehindLetter_114
  by_cases sw_1_6 : k = 119
  · refine lv_tableIn (off := 110) (tgt := 111) hx hb dX1_placeBehindLetter_1 (by rw [toInt_iI ⟨by omega, by omega⟩]; omega) (by rw [toInt_iI ⟨by omega, by omega⟩]; omega) (by rw [toInt_iI ⟨by omega, by omega⟩, sw_1_6]; rfl) (by decide) ?_
    refine lv_iconst (v := iI 3) hx hb dX1_placeBehindLetter_111 (by decide) ?_
    exact z_iret hx hb hr hlocks hK hS () (by unfold pL; (repeat (first | with_reducible rfl | rw [if_pos (by omega)] | rw [if_neg (by omega)]))) hP hD dX1_placeBehindLetter_112
  by_cases sw_1_7 : k = 98
  · refine lv_tableIn (off := 114) (tgt := 115) hx hb dX1_placeBehindLetter_1 (by rw [toInt_iI ⟨by omega, by omega⟩]; omega) (by rw [toInt_iI ⟨by omega, by omega⟩]; omega) (by rw [toInt_iI ⟨by omega, by omega⟩, sw_1_7]; rfl) (by decide) ?_
    refine lv_iconst (v := iI 0) hx hb dX1_placeBehindLetter_115 (by decide) ?_
    exact z_iret hx hb hr hlocks hK hS () (by unfold pL; (repeat (first | with_reducible rfl | rw [if_pos (by omega)] | rw [if_neg (by omega)]))) hP hD dX1_placeBehindLetter_116
  by_cases sw_1_8 : k = 99
  · refine lv_tableIn (off := 114) (tgt := 115) hx hb dX1_placeBehindLetter_1 (by rw [toInt_iI ⟨by omega, by omega⟩]; omega) (by rw [toInt_iI ⟨by omega, by omega⟩]; omega) (by rw [toInt_iI ⟨by omega, by omega⟩, sw_1_8]; rfl) (by decide) ?_
    refine lv_iconst (v := iI 0) hx hb dX1_placeBehindLetter_115 (by decide) ?_
    exact z_iret hx hb hr hlocks hK hS () (by unfold pL; (repeat (first | with_reducible rfl | rw [if_pos (by omega)] | rw [if_neg (by omega)]))) hP hD dX1_placeBehindLetter_116
  by_cases sw_1_9 : k = 101
  · refine lv_tableIn (off := 114) (tgt := 115) hx hb dX1_placeBehindLetter_1 (by rw [toInt_iI ⟨by omega, by omega⟩]; omega) (by rw [toInt_iI ⟨by omega, by omega⟩]; omega) (by rw [toInt_iI ⟨by omega, by omega⟩, sw_1_9]; rfl) (by decide) ?_
    refine lv_iconst (v := iI 0) hx hb dX1_placeBehindLetter_115 (by decide) ?_
    exact z_iret hx hb hr hlocks hK hS () (by unfold pL; (repeat (first | with_reducible rfl | rw [if_pos (by omega)] | rw [if_neg (by omega)]))) hP hD dX1_placeBehindLetter_116
  by_cases sw_1_10 : k = 104
  · refine lv_tableIn (off := 114) (tgt := 115) hx hb dX1_placeBehindLetter_1 (by rw [toInt_iI ⟨by omega, by omega⟩]; omega) (by rw [toInt_iI ⟨by omega, by omega⟩]; omega) (by rw [toInt_iI ⟨by omega, by omega⟩, sw_1_10]; rfl) (by decide) ?_
    refine lv_iconst (v := iI 0) hx hb dX1_placeBehindLetter_115 (by decide) ?_
    exact z_iret hx hb hr hlocks hK hS () (by unfold pL; (repeat (first | with_reducible rfl | rw [if_pos (by omega)] | rw [if_neg (by omega)]))) hP hD dX1_placeBehindLetter_116
  by_cases sw_1_11 : k = 105
  · refine lv_tableIn (off := 114) (tgt := 115) hx hb dX1_placeBehindLetter_1 (by rw [toInt_iI ⟨by omega, by omega⟩]; omega) (by rw [toInt_iI ⟨by omega, by omega⟩]; omega) (by rw [toInt_iI ⟨by omega, by omega⟩, sw_1_11]; rfl) (by decide) ?_
    refine lv_iconst (v := iI 0) hx hb dX1_placeBehindLetter_115 (by decide) ?_
    exact z_iret hx hb hr hlocks hK hS () (by unfold pL; (repeat (first | with_reducible rfl | rw [if_pos (by omega)] | rw [if_neg (by omega)]))) hP hD dX1_placeBehindLetter_116
  by_cases sw_1_12 : k = 107
  · refine lv_tableIn (off := 114) (tgt := 115) hx hb dX1_placeBehindLetter_1 (by rw [toInt_iI ⟨by omega, by omega⟩]; omega) (by rw [toInt_iI ⟨by omega, by omega⟩]; omega) (by rw [toInt_iI ⟨by omega, by omega⟩, sw_1_12]; rfl) (by decide) ?_
    refine lv_iconst (v := iI 0) hx hb dX1_placeBehindLetter_115 (by decide) ?_
    exact z_iret hx hb hr hlocks hK hS () (by unfold pL; (repeat (first | with_reducible rfl | rw [if_pos (by omega)] | rw [if_neg (by omega)]))) hP hD dX1_placeBehindLetter_116
  by_cases sw_1_13 : k = 108
  · refine lv_tableIn (off := 114) (tgt := 115) hx hb dX1_placeBehindLetter_1 (by rw [toInt_iI ⟨by omega, by omega⟩]; omega) (by rw [toInt_iI ⟨by omega, by omega⟩]; omega) (by rw [toInt_iI ⟨by omega, by omega⟩, sw_1_13]; rfl) (by decide) ?_
    refine lv_iconst (v := iI 0) hx hb dX1_placeBehindLetter_115 (by decide) ?_
    exact z_iret hx hb hr hlocks hK hS () (by unfold pL; (repeat (first | with_reducible rfl | rw [if_pos (by omega)] | rw [if_neg (by omega)]))) hP hD dX1_placeBehindLetter_116
  by_cases sw_1_14 : k = 109
  · refine lv_tableIn (off := 114) (tgt := 115) hx hb dX1_placeBehindLetter_1 (by rw [toInt_iI ⟨by omega, by omega⟩]; omega) (by rw [toInt_iI ⟨by omega, by omega⟩]; omega) (by rw [toInt_iI ⟨by omega, by omega⟩, sw_1_14]; rfl) (by decide) ?_
    refine lv_iconst (v := iI 0) hx hb dX1_placeBehindLetter_115 (by decide) ?_
    exact z_iret hx hb hr hlocks hK hS () (by unfold pL; (repeat (first | with_reducible rfl | rw [if_pos (by omega)] | rw [if_neg (by omega)]))) hP hD dX1_placeBehindLetter_116
  by_cases sw_1_15 : k = 110
  · refine lv_tableIn (off := 114) (tgt := 115) hx hb dX1_placeBehindLetter_1 (by rw [toInt_iI ⟨by omega, by omega⟩]; omega) (by rw [toInt_iI ⟨by omega, by omega⟩]; omega) (by rw [toInt_iI ⟨by omega, by omega⟩, sw_1_15]; rfl) (by decide) ?_
    refine lv_iconst (v := iI 0) hx hb dX1_placeBehindLetter_115 (by decide) ?_
    exact z_iret hx hb hr hlocks hK hS () (by unfold pL; (repeat (first | with_reducible rfl | rw [if_pos (by omega)] | rw [if_neg (by omega)]))) hP hD dX1_placeBehindLetter_116
  by_cases sw_1_16 : k = 111
  · refine lv_tableIn (off := 114) (tgt := 115) hx hb dX1_placeBehindLetter_1 (by rw [toInt_iI ⟨by omega, by omega⟩]; omega) (by rw [toInt_iI ⟨by omega, by omega⟩]; omega) (by rw [toInt_iI ⟨by omega, by omega⟩, sw_1_16]; rfl) (by decide) ?_
    refine lv_iconst (v := iI 0) hx hb dX1_placeBehindLetter_115 (by decide) ?_
    exact z_iret hx hb hr hlocks hK hS () (by unfold pL; (repeat (first | with_reducible rfl | rw [if_pos (by omega)] | rw [if_neg (by omega)]))) hP hD dX1_placeBehindLetter_116
  by_cases sw_1_17 : k = 112
  · refine lv_tableIn (off := 114) (tgt := 115) hx hb dX1_placeBehindLetter_1 (by rw [toInt_iI ⟨by omega, by omega⟩]; omega) (by rw [toInt_iI ⟨by omega, by omega⟩]; omega) (by rw [toInt_iI ⟨by omega, by omega⟩, sw_1_17]; rfl) (by decide) ?_
    refine lv_iconst (v := iI 0) hx hb dX1_placeBehindLetter_115 (by decide) ?_
    exact z_iret hx hb hr hlocks hK hS () (by unfold pL; (repeat (first | with_reducible rfl | rw [if_pos (by omega)] | rw [if_neg (by omega)]))) hP hD dX1_placeBehindLetter_116
  by_cases sw_1_18 : k = 113
  · refine lv_tableIn (off := 114) (tgt := 115) hx hb dX1_placeBehindLetter_1 (by rw [toInt_iI ⟨by omega, by omega⟩]; omega) (by rw [toInt_iI ⟨by omega, by omega⟩]; omega) (by rw [toInt_iI ⟨by omega, by omega⟩, sw_1_18]; rfl) (by decide) ?_
    refine lv_iconst (v := iI 0) hx hb dX1_placeBehindLetter_115 (by decide) ?_
    exact z_iret hx hb hr hlocks hK hS () (by unfold pL; (repeat (first | with_reducible rfl | rw [if_pos (by omega)] | rw [if_neg (by omega)]))) hP hD dX1_placeBehindLetter_116
  by_cases sw_1_19 : k = 115
  · refine lv_tableIn (off := 114) (tgt := 115) hx hb dX1_placeBehindLetter_1 (by rw [toInt_iI ⟨by omega, by omega⟩]; omega) (by rw [toInt_iI ⟨by omega, by omega⟩]; omega) (by rw [toInt_iI ⟨by omega, by omega⟩, sw_1_19]; rfl) (by decide) ?_
    refine lv_iconst (v := iI 0) hx hb dX1_placeBehindLetter_115 (by decide) ?_
    exact z_iret hx hb hr hlocks hK hS () (by unfold pL; (repeat (first | with_reducible rfl | rw [if_pos (by omega)] | rw [if_neg (by omega)]))) hP hD dX1_placeBehindLetter_116
  by_cases sw_1_20 : k = 116
  · refine lv_tableIn (off := 114) (tgt := 115) hx hb dX1_placeBehindLetter_1 (by rw [toInt_iI ⟨by omega, by omega⟩]; omega) (by rw [toInt_iI ⟨by omega, by omega⟩]; omega) (by rw [toInt_iI ⟨by omega, by omega⟩, sw_1_20]; rfl) (by decide) ?_
    refine lv_iconst (v := iI 0) hx hb dX1_placeBehindLetter_115 (by decide) ?_
    exact z_iret hx hb hr hlocks hK hS () (by unfold pL; (repeat (first | with_reducible rfl | rw [if_pos (by omega)] | rw [if_neg (by omega)]))) hP hD dX1_placeBehindLetter_116
  by_cases sw_1_21 : k = 117
  · refine lv_tableIn (off := 114) (tgt := 115) hx hb dX1_placeBehindLetter_1 (by rw [toInt_iI ⟨by omega, by omega⟩]; omega) (by rw [toInt_iI ⟨by omega, by omega⟩]; omega) (by rw [toInt_iI ⟨by omega, by omega⟩, sw_1_21]; rfl) (by decide) ?_
    refine lv_iconst (v := iI 0) hx hb dX1_placeBehindLetter_115 (by decide) ?_
    exact z_iret hx hb hr hlocks hK hS () (by unfold pL; (repeat (first | with_reducible rfl | rw [if_pos (by omega)] | rw [if_neg (by omega)]))) hP hD dX1_placeBehindLetter_116
  by_cases sw_1_22 : k = 118
  · refine lv_tableIn (off := 114) (tgt := 115) hx hb dX1_placeBehindLetter_1 (by rw [toInt_iI ⟨by omega, by omega⟩]; omega) (by rw [toInt_iI ⟨by omega, by omega⟩]; omega) (by rw [toInt_iI ⟨by omega, by omega⟩, sw_1_22]; rfl) (by decide) ?_
    refine lv_iconst (v := iI 0) hx hb dX1_placeBehindLetter_115 (by decide) ?_
    exact z_iret hx hb hr hlocks hK hS () (by unfold pL; (repeat (first | with_reducible rfl | rw [if_pos (by omega)] | rw [if_neg (by omega)]))) hP hD dX1_placeBehindLetter_116
  refine lv_tableOut (tgt := 115) hx hb dX1_placeBehindLetter_1 (by rw [toInt_iI ⟨by omega, by omega⟩]; omega) (by decide) ?_
  refine lv_iconst (v := iI 0) hx hb dX1_placeBehindLetter_115 (by decide) ?_
  exact z_iret hx hb hr hlocks hK hS () (by unfold pL; (repeat (first | with_reducible rfl | rw [if_pos (by omega)] | rw [if_neg (by omega)]))) hP hD dX1_placeBehindLetter_116

theorem ndX1_placeBehindName : yX1_placeBehindName.cls = RX1 ∧ yX1_placeBehindName.cls ≠ "java/lang/invoke/MethodHandle" ∧ yX1_placeBehindName.cls ≠ "java/lang/invoke/VarHandle" ∧ (parseMethodDescriptor yX1_placeBehindName.desc).map (fun d => d.parameters.length) = some 3 := by decide +kernel
set_option maxRecDepth 100000 in
set_option maxHeartbeats 1000000 in
theorem c_X1_placeBehindName (l : Launch) (E : zE) (q : Nat → Nat) (sg : Int → Int) (le : Int) (k : Int) (a : Int) (b : Int) (h0 : 0 ≤ k ∧ k ≤ 127) : zF l E yX1_placeBehindName wsX1_placeBehindName 0 0 [.ref (q 0), .int (iI k), .int (iI a), .int (iI b)] (wPd E q sg le) (pN k a b) (wPd E q sg le) := by
  refine zC_of (cc := cX1_placeBehindName) (maxL := 4) (by decide) rfl (Nat.le_of_ble_eq_true rfl) ?_
  intro p e s m below meth c ls A hx hb hr hts hown hlocks hml hK hA hS hP hD hl
  have hown : s.vm.findClass RX1 = some m.cls := hown
  have hl : lv_has ls 4 [(0, .ref (q 0)), (1, .int (iI k)), (2, .int (iI a)), (3, .int (iI b))] := hl
  refine lv_iload_n hx hb dX1_placeBehindName_0 rfl (lv_at hl 1 rfl) ?_
  refine lv_bipush (v := iI 45) hx hb dX1_placeBehindName_1 (by decide) ?_
  refine z_icmp_ne (tgt := 8) hx hb dX1_placeBehindName_3 (by decide) ⟨by omega, by omega⟩ ⟨by omega, by omega⟩ (fun c_3 => ?_) (fun c_3 => ?_)
  · refine lv_iload_n hx hb dX1_placeBehindName_8 rfl (lv_at hl 1 rfl) ?_
    refine lv_bipush (v := iI 48) hx hb dX1_placeBehindName_9 (by decide) ?_
    refine z_icmp_eq (tgt := 20) hx hb dX1_placeBehindName_11 (by decide) ⟨by omega, by omega⟩ ⟨by omega, by omega⟩ (fun c_11 => ?_) (fun c_11 => ?_)
    · refine lv_iload_n hx hb dX1_placeBehindName_20 rfl (lv_at hl 3 rfl) ?_
      refine lv_goto (tgt := 25) hx hb dX1_placeBehindName_21 (by decide) ?_
      exact z_iret hx hb hr hlocks hK hS () (by first | (exfalso; omega) | (unfold pN; (repeat (first | with_reducible rfl | rw [if_pos (by omega)] | rw [if_neg (by omega)])))) hP hD dX1_placeBehindName_25
    · refine lv_iload_n hx hb dX1_placeBehindName_14 rfl (lv_at hl 1 rfl) ?_
      refine lv_bipush (v := iI 43) hx hb dX1_placeBehindName_15 (by decide) ?_
      refine z_icmp_ne (tgt := 24) hx hb dX1_placeBehindName_17 (by decide) ⟨by omega, by omega⟩ ⟨by omega, by omega⟩ (fun c_17 => ?_) (fun c_17 => ?_)
      · refine lv_iconst (v := iI 0) hx hb dX1_placeBehindName_24 (by decide) ?_
        exact z_iret hx hb hr hlocks hK hS () (by first | (exfalso; omega) | (unfold pN; (repeat (first | with_reducible rfl | rw [if_pos (by omega)] | rw [if_neg (by omega)])))) hP hD dX1_placeBehindName_25
      · refine lv_iload_n hx hb dX1_placeBehindName_20 rfl (lv_at hl 3 rfl) ?_
        refine lv_goto (tgt := 25) hx hb dX1_placeBehindName_21 (by decide) ?_
        exact z_iret hx hb hr hlocks hK hS () (by first | (exfalso; omega) | (unfold pN; (repeat (first | with_reducible rfl | rw [if_pos (by omega)] | rw [if_neg (by omega)])))) hP hD dX1_placeBehindName_25
  · refine lv_iload_n hx hb dX1_placeBehindName_6 rfl (lv_at hl 2 rfl) ?_
    exact z_iret hx hb hr hlocks hK hS () (by first | (exfalso; omega) | (unfold pN; (repeat (first | with_reducible rfl | rw [if_pos (by omega)] | rw [if_neg (by omega)])))) hP hD dX1_placeBehindName_7

theorem ndX1_placeBehindOrder : yX1_placeBehindOrder.cls = RX1 ∧ yX1_placeBehindOrder.cls ≠ "java/lang/invoke/MethodHandle" ∧ yX1_placeBehindOrder.cls ≠ "java/lang/invoke/VarHandle" ∧ (parseMethodDescriptor yX1_placeBehindOrder.desc).map (fun d => d.parameters.length) = some 1 := by decide +kernel
set_option maxRecDepth 100000 in
set_option maxHeartbeats 1000000 in
theorem c_X1_placeBehindOrder (l : Launch) (E : zE) (q : Nat → Nat) (sg : Int → Int) (le : Int) (k : Int) (h0 : 0 ≤ k ∧ k ≤ 127) : zF l E yX1_placeBehindOrder wsX1_placeBehindOrder 0 0 [.ref (q 0), .int (iI k)] (wPd E q sg le) (pO k) (wPd E q sg le) := by
  refine zC_of (cc := cX1_placeBehindOrder) (maxL := 2) (by decide) rfl (Nat.le_of_ble_eq_true rfl) ?_
  intro p e s m below meth c ls A hx hb hr hts hown hlocks hml hK hA hS hP hD hl
  have hown : s.vm.findClass RX1 = some m.cls := hown
  have hl : lv_has ls 2 [(0, .ref (q 0)), (1, .int (iI k))] := hl
  refine lv_iload_n hx hb dX1_placeBehindOrder_0 rfl (lv_at hl 1 rfl) ?_
  refine lv_bipush (v := iI 59) hx hb dX1_placeBehindOrder_1 (by decide) ?_
  refine z_icmp_ne (tgt := 10) hx hb dX1_placeBehindOrder_3 (by decide) ⟨by omega, by omega⟩ ⟨by omega, by omega⟩ (fun c_3 => ?_) (fun c_3 => ?_)
  · refine lv_iconst (v := iI 0) hx hb dX1_placeBehindOrder_10 (by decide) ?_
    exact z_iret hx hb hr hlocks hK hS () (by unfold pO; (repeat (first | with_reducible rfl | rw [if_pos (by omega)] | rw [if_neg (by omega)]))) hP hD dX1_placeBehindOrder_11
  · refine lv_iconst (v := iI 1) hx hb dX1_placeBehindOrder_6 (by decide) ?_
    refine lv_goto (tgt := 11) hx hb dX1_placeBehindOrder_7 (by decide) ?_
    exact z_iret hx hb hr hlocks hK hS () (by unfold pO; (repeat (first | with_reducible rfl | rw [if_pos (by omega)] | rw [if_neg (by omega)]))) hP hD dX1_placeBehindOrder_11

theorem ndX1_isDigit : yX1_isDigit.cls = RX1 ∧ yX1_isDigit.cls ≠ "java/lang/invoke/MethodHandle" ∧ yX1_isDigit.cls ≠ "java/lang/invoke/VarHandle" ∧ (parseMethodDescriptor yX1_isDigit.desc).map (fun d => d.parameters.length) = some 1 := by decide +kernel
set_option maxRecDepth 100000 in
set_option maxHeartbeats 1000000 in
theorem c_X1_isDigit (l : Launch) (E : zE) (q : Nat → Nat) (sg : Int → Int) (le : Int) (k : Int) (h0 : 0 ≤ k ∧ k ≤ 127) : zF l E yX1_isDigit wsX1_isDigit 0 0 [.ref (q 0), .int (iI k)] (wPd E q sg le) (zb (48 ≤ k ∧ k ≤ 57)) (wPd E q sg le) := by
  refine zC_of (cc := cX1_isDigit) (maxL := 2) (by decide) rfl (Nat.le_of_ble_eq_true rfl) ?_
  intro p e s m below meth c ls A hx hb hr hts hown hlocks hml hK hA hS hP hD hl
  have hown : s.vm.findClass RX1 = some m.cls := hown
  have hl : lv_has ls 2 [(0, .ref (q 0)), (1, .int (iI k))] := hl
  refine lv_iload_n hx hb dX1_isDigit_0 rfl (lv_at hl 1 rfl) ?_
  refine lv_bipush (v := iI 48) hx hb dX1_isDigit_1 (by decide) ?_
  refine z_icmp_lt (tgt := 16) hx hb dX1_isDigit_3 (by decide) ⟨by omega, by omega⟩ ⟨by omega, by omega⟩ (fun c_3 => ?_) (fun c_3 => ?_)
  · refine lv_iconst (v := iI 0) hx hb dX1_isDigit_16 (by decide) ?_
    exact z_zret hx hb hr hlocks hK hS (Or.inl rfl) () (by first | rfl | trivial | exact zb_t' (by omega) | exact zb_f' (by omega) | omega) hP hD dX1_isDigit_17
  · refine lv_iload_n hx hb dX1_isDigit_6 rfl (lv_at hl 1 rfl) ?_
    refine lv_bipush (v := iI 57) hx hb dX1_isDigit_7 (by decide) ?_
    refine z_icmp_gt (tgt := 16) hx hb dX1_isDigit_9 (by decide) ⟨by omega, by omega⟩ ⟨by omega, by omega⟩ (fun c_9 => ?_) (fun c_9 => ?_)
    · refine lv_iconst (v := iI 0) hx hb dX1_isDigit_16 (by decide) ?_
      exact z_zret hx hb hr hlocks hK hS (Or.inl rfl) () (by first | rfl | trivial | exact zb_t' (by omega) | exact zb_f' (by omega) | omega) hP hD dX1_isDigit_17
    · refine lv_iconst (v := iI 1) hx hb dX1_isDigit_12 (by decide) ?_
      refine lv_goto (tgt := 17) hx hb dX1_isDigit_13 (by decide) ?_
      exact z_zret hx hb hr hlocks hK hS (Or.inr rfl) () (by first | rfl | trivial | exact zb_t' (by omega) | exact zb_f' (by omega) | omega) hP hD dX1_isDigit_17

theorem ndX1_placeBehind : yX1_placeBehind.cls = RX1 ∧ yX1_placeBehind.cls ≠ "java/lang/invoke/MethodHandle" ∧ yX1_placeBehind.cls ≠ "java/lang/invoke/VarHandle" ∧ (parseMethodDescriptor yX1_placeBehind.desc).map (fun d => d.parameters.length) = some 2 := by decide +kernel
set_option maxRecDepth 100000 in
set_option maxHeartbeats 1000000 in
theorem c_X1_placeBehind (l : Launch) (E : zE) (q : Nat → Nat) (sg : Int → Int) (le : Int) (pl : Int) (k : Int) (h0 : 0 ≤ pl ∧ pl ≤ 13) (h1 : 0 ≤ k ∧ k ≤ 127) : zF l E yX1_placeBehind wsX1_placeBehind 1 23 [.ref (q 0), .int (iI pl), .int (iI k)] (wPd E q sg le) (PB pl k) (wPd E q sg le) := by
  refine zC_of (cc := cX1_placeBehind) (maxL := 3) (by decide) rfl (Nat.le_of_ble_eq_true rfl) ?_
  intro p e s m below meth c ls A hx hb hr hts hown hlocks hml hK hA hS hP hD hl
  have hown : s.vm.findClass RX1 = some m.cls := hown
  have hl : lv_has ls 3 [(0, .ref (q 0)), (1, .int (iI pl)), (2, .int (iI k))] := hl
  refine lv_iload_n hx hb dX1_placeBehind_0 rfl (lv_at hl 1 rfl) ?_
  by_cases sw_1_0 : pl = 1
  · refine lv_tableIn (off := 63) (tgt := 64) hx hb dX1_placeBehind_1 (by rw [toInt_iI ⟨by omega, by omega⟩]; omega) (by rw [toInt_iI ⟨by omega, by omega⟩]; omega) (by rw [toInt_iI ⟨by omega, by omega⟩, sw_1_0]; rfl) (by decide) ?_
    refine lv_aload_n hx hb dX1_placeBehind_64 rfl (lv_at hl 0 rfl) ?_
    refine lv_iload_n hx hb dX1_placeBehind_65 rfl (lv_at hl 2 rfl) ?_
    refine z_callV0 (ci := 1) (qk := 0) (As := [.int (iI k)]) (rest := []) hx hb hml hown hts hK hA hl.1 hP hD hS (c_X1_placeBehindLetter l E q sg le k  (by first | omega | exact hpd | exact ⟨by omega, by omega⟩)) gX1_placeBehind_X1_placeBehindLetter rfl ndX1_placeBehindLetter ⟨Nat.le_of_ble_eq_true rfl, Nat.le_of_ble_eq_true rfl⟩ rfl rfl rfl rfl rfl (Nat.le_of_ble_eq_true rfl) dX1_placeBehind_66 ⟨Nat.le_of_ble_eq_true rfl, Nat.le_of_ble_eq_true rfl⟩ (fun x u H locs hpost hP hD hS => ?_)
    subst hpost
    have hP : va_P E.1 vwCl (wPd E q sg le) H := hP
    have hD : va_D A (wPd E q sg le) := hD
    exact z_iret hx hb hr hlocks hK hS () (by unfold PB; (repeat (first | with_reducible rfl | rw [if_pos (by omega)] | rw [if_neg (by omega)]))) hP hD dX1_placeBehind_69
  by_cases sw_1_1 : pl = 2
  · refine lv_tableIn (off := 69) (tgt := 70) hx hb dX1_placeBehind_1 (by rw [toInt_iI ⟨by omega, by omega⟩]; omega) (by rw [toInt_iI ⟨by omega, by omega⟩]; omega) (by rw [toInt_iI ⟨by omega, by omega⟩, sw_1_1]; rfl) (by decide) ?_
    refine lv_iload_n hx hb dX1_placeBehind_70 rfl (lv_at hl 2 rfl) ?_
    refine lv_bipush (v := iI 48) hx hb dX1_placeBehind_71 (by decide) ?_
    refine z_icmp_lt (tgt := 86) hx hb dX1_placeBehind_73 (by decide) ⟨by omega, by omega⟩ ⟨by omega, by omega⟩ (fun c_73 => ?_) (fun c_73 => ?_)
    · refine lv_iconst (v := iI 0) hx hb dX1_placeBehind_86 (by decide) ?_
      exact z_iret hx hb hr hlocks hK hS () (by unfold PB; (repeat (first | with_reducible rfl | rw [if_pos (by omega)] | rw [if_neg (by omega)]))) hP hD dX1_placeBehind_87
    · refine lv_iload_n hx hb dX1_placeBehind_76 rfl (lv_at hl 2 rfl) ?_
      refine lv_bipush (v := iI 53) hx hb dX1_placeBehind_77 (by decide) ?_
      refine z_icmp_gt (tgt := 86) hx hb dX1_placeBehind_79 (by decide) ⟨by omega, by omega⟩ ⟨by omega, by omega⟩ (fun c_79 => ?_) (fun c_79 => ?_)
      · refine lv_iconst (v := iI 0) hx hb dX1_placeBehind_86 (by decide) ?_
        exact z_iret hx hb hr hlocks hK hS () (by unfold PB; (repeat (first | with_reducible rfl | rw [if_pos (by omega)] | rw [if_neg (by omega)]))) hP hD dX1_placeBehind_87
      · refine lv_iconst (v := iI 4) hx hb dX1_placeBehind_82 (by decide) ?_
        refine lv_goto (tgt := 87) hx hb dX1_placeBehind_83 (by decide) ?_
        exact z_iret hx hb hr hlocks hK hS () (by unfold PB; (repeat (first | with_reducible rfl | rw [if_pos (by omega)] | rw [if_neg (by omega)]))) hP hD dX1_placeBehind_87
  by_cases sw_1_2 : pl = 3
  · refine lv_tableIn (off := 87) (tgt := 88) hx hb dX1_placeBehind_1 (by rw [toInt_iI ⟨by omega, by omega⟩]; omega) (by rw [toInt_iI ⟨by omega, by omega⟩]; omega) (by rw [toInt_iI ⟨by omega, by omega⟩, sw_1_2]; rfl) (by decide) ?_
    refine lv_iload_n hx hb dX1_placeBehind_88 rfl (lv_at hl 2 rfl) ?_
    refine lv_bipush (v := iI 48) hx hb dX1_placeBehind_89 (by decide) ?_
    refine z_icmp_lt (tgt := 104) hx hb dX1_placeBehind_91 (by decide) ⟨by omega, by omega⟩ ⟨by omega, by omega⟩ (fun c_91 => ?_) (fun c_91 => ?_)
    · refine lv_iconst (v := iI 0) hx hb dX1_placeBehind_104 (by decide) ?_
      exact z_iret hx hb hr hlocks hK hS () (by unfold PB; (repeat (first | with_reducible rfl | rw [if_pos (by omega)] | rw [if_neg (by omega)]))) hP hD dX1_placeBehind_105
    · refine lv_iload_n hx hb dX1_placeBehind_94 rfl (lv_at hl 2 rfl) ?_
      refine lv_bipush (v := iI 53) hx hb dX1_placeBehind_95 (by decide) ?_
      refine z_icmp_gt (tgt := 104) hx hb dX1_placeBehind_97 (by decide) ⟨by omega, by omega⟩ ⟨by omega, by omega⟩ (fun c_97 => ?_) (fun c_97 => ?_)
      · refine lv_iconst (v := iI 0) hx hb dX1_placeBehind_104 (by decide) ?_
        exact z_iret hx hb hr hlocks hK hS () (by unfold PB; (repeat (first | with_reducible rfl | rw [if_pos (by omega)] | rw [if_neg (by omega)]))) hP hD dX1_placeBehind_105
      · refine lv_iconst (v := iI 5) hx hb dX1_placeBehind_100 (by decide) ?_
        refine lv_goto (tgt := 105) hx hb dX1_placeBehind_101 (by decide) ?_
        exact z_iret hx hb hr hlocks hK hS () (by unfold PB; (repeat (first | with_reducible rfl | rw [if_pos (by omega)] | rw [if_neg (by omega)]))) hP hD dX1_placeBehind_105
  by_cases sw_1_3 : pl = 4
  · refine lv_tableIn (off := 105) (tgt := 106) hx hb dX1_placeBehind_1 (by rw [toInt_iI ⟨by omega, by omega⟩]; omega) (by rw [toInt_iI ⟨by omega, by omega⟩]; omega) (by rw [toInt_iI ⟨by omega, by omega⟩, sw_1_3]; rfl) (by decide) ?_
    refine lv_aload_n hx hb dX1_placeBehind_106 rfl (lv_at hl 0 rfl) ?_
    refine lv_iload_n hx hb dX1_placeBehind_107 rfl (lv_at hl 2 rfl) ?_
    refine lv_bipush (v := iI 6) hx hb dX1_placeBehind_108 (by decide) ?_
    refine lv_bipush (v := iI 13) hx hb dX1_placeBehind_110 (by decide) ?_
    refine z_callV0 (ci := 1) (qk := 0) (As := [.int (iI k), .int (iI 6), .int (iI 13)]) (rest := []) hx hb hml hown hts hK hA hl.1 hP hD hS (c_X1_placeBehindName l E q sg le k 6 13  (by first | omega | exact hpd | exact ⟨by omega, by omega⟩)) gX1_placeBehind_X1_placeBehindName rfl ndX1_placeBehindName ⟨Nat.le_of_ble_eq_true rfl, Nat.le_of_ble_eq_true rfl⟩ rfl rfl rfl rfl rfl (Nat.le_of_ble_eq_true rfl) dX1_placeBehind_112 ⟨Nat.le_of_ble_eq_true rfl, Nat.le_of_ble_eq_true rfl⟩ (fun x u H locs hpost hP hD hS => ?_)
    subst hpost
    have hP : va_P E.1 vwCl (wPd E q sg le) H := hP
    have hD : va_D A (wPd E q sg le) := hD
    exact z_iret hx hb hr hlocks hK hS () (by unfold PB; (repeat (first | with_reducible rfl | rw [if_pos (by omega)] | rw [if_neg (by omega)]))) hP hD dX1_placeBehind_115
  by_cases sw_1_4 : pl = 5
  · refine lv_tableIn (off := 115) (tgt := 116) hx hb dX1_placeBehind_1 (by rw [toInt_iI ⟨by omega, by omega⟩]; omega) (by rw [toInt_iI ⟨by omega, by omega⟩]; omega) (by rw [toInt_iI ⟨by omega, by omega⟩, sw_1_4]; rfl) (by decide) ?_
    refine lv_aload_n hx hb dX1_placeBehind_116 rfl (lv_at hl 0 rfl) ?_
    refine lv_iload_n hx hb dX1_placeBehind_117 rfl (lv_at hl 2 rfl) ?_
    refine lv_bipush (v := iI 7) hx hb dX1_placeBehind_118 (by decide) ?_
    refine lv_bipush (v := iI 8) hx hb dX1_placeBehind_120 (by decide) ?_
    refine z_callV0 (ci := 1) (qk := 0) (As := [.int (iI k), .int (iI 7), .int (iI 8)]) (rest := []) hx hb hml hown hts hK hA hl.1 hP hD hS (c_X1_placeBehindName l E q sg le k 7 8  (by first | omega | exact hpd | exact ⟨by omega, by omega⟩)) gX1_placeBehind_X1_placeBehindName rfl ndX1_placeBehindName ⟨Nat.le_of_ble_eq_true rfl, Nat.le_of_ble_eq_true rfl⟩ rfl rfl rfl rfl rfl (Nat.le_of_ble_eq_true rfl) dX1_placeBehind_122 ⟨Nat.le_of_ble_eq_true rfl, Nat.le_of_ble_eq_true rfl⟩ (fun x u H locs hpost hP hD hS => ?_)
    subst hpost
    have hP : va_P E.1 vwCl (wPd E q sg le) H := hP
    have hD : va_D A (wPd E q sg le) := hD
    exact z_iret hx hb hr hlocks hK hS () (by unfold PB; (repeat (first | with_reducible rfl | rw [if_pos (by omega)] | rw [if_neg (by omega)]))) hP hD dX1_placeBehind_125
  by_cases sw_1_5 : pl = 6
  · refine lv_tableIn (off := 125) (tgt := 126) hx hb dX1_placeBehind_1 (by rw [toInt_iI ⟨by omega, by omega⟩]; omega) (by rw [toInt_iI ⟨by omega, by omega⟩]; omega) (by rw [toInt_iI ⟨by omega, by omega⟩, sw_1_5]; rfl) (by decide) ?_
    refine lv_iload_n hx hb dX1_placeBehind_126 rfl (lv_at hl 2 rfl) ?_
    refine lv_bipush (v := iI 49) hx hb dX1_placeBehind_127 (by decide) ?_
    refine z_icmp_lt (tgt := 143) hx hb dX1_placeBehind_129 (by decide) ⟨by omega, by omega⟩ ⟨by omega, by omega⟩ (fun c_129 => ?_) (fun c_129 => ?_)
    · refine lv_iconst (v := iI 0) hx hb dX1_placeBehind_143 (by decide) ?_
      exact z_iret hx hb hr hlocks hK hS () (by unfold PB; (repeat (first | with_reducible rfl | rw [if_pos (by omega)] | rw [if_neg (by omega)]))) hP hD dX1_placeBehind_144
    · refine lv_iload_n hx hb dX1_placeBehind_132 rfl (lv_at hl 2 rfl) ?_
      refine lv_bipush (v := iI 55) hx hb dX1_placeBehind_133 (by decide) ?_
      refine z_icmp_gt (tgt := 143) hx hb dX1_placeBehind_135 (by decide) ⟨by omega, by omega⟩ ⟨by omega, by omega⟩ (fun c_135 => ?_) (fun c_135 => ?_)
      · refine lv_iconst (v := iI 0) hx hb dX1_placeBehind_143 (by decide) ?_
        exact z_iret hx hb hr hlocks hK hS () (by unfold PB; (repeat (first | with_reducible rfl | rw [if_pos (by omega)] | rw [if_neg (by omega)]))) hP hD dX1_placeBehind_144
      · refine lv_bipush (v := iI 13) hx hb dX1_placeBehind_138 (by decide) ?_
        refine lv_goto (tgt := 144) hx hb dX1_placeBehind_140 (by decide) ?_
        exact z_iret hx hb hr hlocks hK hS () (by unfold PB; (repeat (first | with_reducible rfl | rw [if_pos (by omega)] | rw [if_neg (by omega)]))) hP hD dX1_placeBehind_144
  by_cases sw_1_6 : pl = 7
  · refine lv_tableIn (off := 144) (tgt := 145) hx hb dX1_placeBehind_1 (by rw [toInt_iI ⟨by omega, by omega⟩]; omega) (by rw [toInt_iI ⟨by omega, by omega⟩]; omega) (by rw [toInt_iI ⟨by omega, by omega⟩, sw_1_6]; rfl) (by decide) ?_
    refine lv_iload_n hx hb dX1_placeBehind_145 rfl (lv_at hl 2 rfl) ?_
    refine lv_bipush (v := iI 49) hx hb dX1_placeBehind_146 (by decide) ?_
    refine z_icmp_lt (tgt := 162) hx hb dX1_placeBehind_148 (by decide) ⟨by omega, by omega⟩ ⟨by omega, by omega⟩ (fun c_148 => ?_) (fun c_148 => ?_)
    · refine lv_iconst (v := iI 0) hx hb dX1_placeBehind_162 (by decide) ?_
      exact z_iret hx hb hr hlocks hK hS () (by unfold PB; (repeat (first | with_reducible rfl | rw [if_pos (by omega)] | rw [if_neg (by omega)]))) hP hD dX1_placeBehind_163
    · refine lv_iload_n hx hb dX1_placeBehind_151 rfl (lv_at hl 2 rfl) ?_
      refine lv_bipush (v := iI 55) hx hb dX1_placeBehind_152 (by decide) ?_
      refine z_icmp_gt (tgt := 162) hx hb dX1_placeBehind_154 (by decide) ⟨by omega, by omega⟩ ⟨by omega, by omega⟩ (fun c_154 => ?_) (fun c_154 => ?_)
      · refine lv_iconst (v := iI 0) hx hb dX1_placeBehind_162 (by decide) ?_
        exact z_iret hx hb hr hlocks hK hS () (by unfold PB; (repeat (first | with_reducible rfl | rw [if_pos (by omega)] | rw [if_neg (by omega)]))) hP hD dX1_placeBehind_163
      · refine lv_bipush (v := iI 8) hx hb dX1_placeBehind_157 (by decide) ?_
        refine lv_goto (tgt := 163) hx hb dX1_placeBehind_159 (by decide) ?_
        exact z_iret hx hb hr hlocks hK hS () (by unfold PB; (repeat (first | with_reducible rfl | rw [if_pos (by omega)] | rw [if_neg (by omega)]))) hP hD dX1_placeBehind_163
  by_cases sw_1_7 : pl = 8
  · refine lv_tableIn (off := 163) (tgt := 164) hx hb dX1_placeBehind_1 (by rw [toInt_iI ⟨by omega, by omega⟩]; omega) (by rw [toInt_iI ⟨by omega, by omega⟩]; omega) (by rw [toInt_iI ⟨by omega, by omega⟩, sw_1_7]; rfl) (by decide) ?_
    refine lv_iload_n hx hb dX1_placeBehind_164 rfl (lv_at hl 2 rfl) ?_
    refine lv_bipush (v := iI 61) hx hb dX1_placeBehind_165 (by decide) ?_
    refine z_icmp_ne (tgt := 175) hx hb dX1_placeBehind_167 (by decide) ⟨by omega, by omega⟩ ⟨by omega, by omega⟩ (fun c_167 => ?_) (fun c_167 => ?_)
    · refine lv_iconst (v := iI 0) hx hb dX1_placeBehind_175 (by decide) ?_
      exact z_iret hx hb hr hlocks hK hS () (by unfold PB; (repeat (first | with_reducible rfl | rw [if_pos (by omega)] | rw [if_neg (by omega)]))) hP hD dX1_placeBehind_176
    · refine lv_bipush (v := iI 9) hx hb dX1_placeBehind_170 (by decide) ?_
      refine lv_goto (tgt := 176) hx hb dX1_placeBehind_172 (by decide) ?_
      exact z_iret hx hb hr hlocks hK hS () (by unfold PB; (repeat (first | with_reducible rfl | rw [if_pos (by omega)] | rw [if_neg (by omega)]))) hP hD dX1_placeBehind_176
  by_cases sw_1_8 : pl = 9
  · refine lv_tableIn (off := 176) (tgt := 177) hx hb dX1_placeBehind_1 (by rw [toInt_iI ⟨by omega, by omega⟩]; omega) (by rw [toInt_iI ⟨by omega, by omega⟩]; omega) (by rw [toInt_iI ⟨by omega, by omega⟩, sw_1_8]; rfl) (by decide) ?_
    refine lv_iload_n hx hb dX1_placeBehind_177 rfl (lv_at hl 2 rfl) ?_
    refine lv_bipush (v := iI 48) hx hb dX1_placeBehind_178 (by decide) ?_
    refine z_icmp_ne (tgt := 188) hx hb dX1_placeBehind_180 (by decide) ⟨by omega, by omega⟩ ⟨by omega, by omega⟩ (fun c_180 => ?_) (fun c_180 => ?_)
    · refine lv_aload_n hx hb dX1_placeBehind_188 rfl (lv_at hl 0 rfl) ?_
      refine lv_iload_n hx hb dX1_placeBehind_189 rfl (lv_at hl 2 rfl) ?_
      refine z_callV0 (ci := 1) (qk := 0) (As := [.int (iI k)]) (rest := []) hx hb hml hown hts hK hA hl.1 hP hD hS (c_X1_isDigit l E q sg le k  (by first | omega | exact hpd | exact ⟨by omega, by omega⟩)) gX1_placeBehind_X1_isDigit rfl ndX1_isDigit ⟨Nat.le_of_ble_eq_true rfl, Nat.le_of_ble_eq_true rfl⟩ rfl rfl rfl rfl rfl (Nat.le_of_ble_eq_true rfl) dX1_placeBehind_190 ⟨Nat.le_of_ble_eq_true rfl, Nat.le_of_ble_eq_true rfl⟩ (fun x u H locs hpost hP hD hS => ?_)
      subst hpost
      have hP : va_P E.1 vwCl (wPd E q sg le) H := hP
      have hD : va_D A (wPd E q sg le) := hD
      refine z_ifb_eq (tgt := 201) hx hb dX1_placeBehind_193 (by decide) (fun c_193 => ?_) (fun c_193 => ?_)
      · refine lv_iconst (v := iI 0) hx hb dX1_placeBehind_201 (by decide) ?_
        exact z_iret hx hb hr hlocks hK hS () (by unfold PB; (repeat (first | with_reducible rfl | rw [if_pos (by omega)] | rw [if_neg (by omega)]))) hP hD dX1_placeBehind_202
      · refine lv_bipush (v := iI 10) hx hb dX1_placeBehind_196 (by decide) ?_
        refine lv_goto (tgt := 202) hx hb dX1_placeBehind_198 (by decide) ?_
        exact z_iret hx hb hr hlocks hK hS () (by unfold PB; (repeat (first | with_reducible rfl | rw [if_pos (by omega)] | rw [if_neg (by omega)]))) hP hD dX1_placeBehind_202
    · refine lv_bipush (v := iI 13) hx hb dX1_placeBehind_183 (by decide) ?_
      refine lv_goto (tgt := 202) hx hb dX1_placeBehind_185 (by decide) ?_
      exact z_iret hx hb hr hlocks hK hS () (by unfold PB; (repeat (first | with_reducible rfl | rw [if_pos (by omega)] | rw [if_neg (by omega)]))) hP hD dX1_placeBehind_202
  by_cases sw_1_9 : pl = 10
  · refine lv_tableIn (off := 202) (tgt := 203) hx hb dX1_placeBehind_1 (by rw [toInt_iI ⟨by omega, by omega⟩]; omega) (by rw [toInt_iI ⟨by omega, by omega⟩]; omega) (by rw [toInt_iI ⟨by omega, by omega⟩, sw_1_9]; rfl) (by decide) ?_
    refine lv_aload_n hx hb dX1_placeBehind_203 rfl (lv_at hl 0 rfl) ?_
    refine lv_iload_n hx hb dX1_placeBehind_204 rfl (lv_at hl 2 rfl) ?_
    refine z_callV0 (ci := 1) (qk := 0) (As := [.int (iI k)]) (rest := []) hx hb hml hown hts hK hA hl.1 hP hD hS (c_X1_isDigit l E q sg le k  (by first | omega | exact hpd | exact ⟨by omega, by omega⟩)) gX1_placeBehind_X1_isDigit rfl ndX1_isDigit ⟨Nat.le_of_ble_eq_true rfl, Nat.le_of_ble_eq_true rfl⟩ rfl rfl rfl rfl rfl (Nat.le_of_ble_eq_true rfl) dX1_placeBehind_205 ⟨Nat.le_of_ble_eq_true rfl, Nat.le_of_ble_eq_true rfl⟩ (fun x u H locs hpost hP hD hS => ?_)
    subst hpost
    have hP : va_P E.1 vwCl (wPd E q sg le) H := hP
    have hD : va_D A (wPd E q sg le) := hD
    refine z_ifb_eq (tgt := 216) hx hb dX1_placeBehind_208 (by decide) (fun c_208 => ?_) (fun c_208 => ?_)
    · refine lv_aload_n hx hb dX1_placeBehind_216 rfl (lv_at hl 0 rfl) ?_
      refine lv_iload_n hx hb dX1_placeBehind_217 rfl (lv_at hl 2 rfl) ?_
      refine z_callV0 (ci := 1) (qk := 0) (As := [.int (iI k)]) (rest := []) hx hb hml hown hts hK hA hl.1 hP hD hS (c_X1_placeBehindOrder l E q sg le k  (by first | omega | exact hpd | exact ⟨by omega, by omega⟩)) gX1_placeBehind_X1_placeBehindOrder rfl ndX1_placeBehindOrder ⟨Nat.le_of_ble_eq_true rfl, Nat.le_of_ble_eq_true rfl⟩ rfl rfl rfl rfl rfl (Nat.le_of_ble_eq_true rfl) dX1_placeBehind_218 ⟨Nat.le_of_ble_eq_true rfl, Nat.le_of_ble_eq_true rfl⟩ (fun x u H locs hpost hP hD hS => ?_)
      subst hpost
      have hP : va_P E.1 vwCl (wPd E q sg le) H := hP
      have hD : va_D A (wPd E q sg le) := hD
      exact z_iret hx hb hr hlocks hK hS () (by unfold PB; (repeat (first | with_reducible rfl | rw [if_pos (by omega)] | rw [if_neg (by omega)]))) hP hD dX1_placeBehind_221
    · refine lv_bipush (v := iI 11) hx hb dX1_placeBehind_211 (by decide) ?_
      refine lv_goto (tgt := 221) hx hb dX1_placeBehind_213 (by decide) ?_
      exact z_iret hx hb hr hlocks hK hS () (by unfold PB; (repeat (first | with_reducible rfl | rw [if_pos (by omega)] | rw [if_neg (by omega)]))) hP hD dX1_placeBehind_221
  by_cases sw_1_10 : pl = 11
  · refine lv_tableIn (off := 221) (tgt := 222) hx hb dX1_placeBehind_1 (by rw [toInt_iI ⟨by omega, by omega⟩]; omega) (by rw [toInt_iI ⟨by omega, by omega⟩]; omega) (by rw [toInt_iI ⟨by omega, by omega⟩, sw_1_10]; rfl) (by decide) ?_
    refine lv_aload_n hx hb dX1_placeBehind_222 rfl (lv_at hl 0 rfl) ?_
    refine lv_iload_n hx hb dX1_placeBehind_223 rfl (lv_at hl 2 rfl) ?_
    refine z_callV0 (ci := 1) (qk := 0) (As := [.int (iI k)]) (rest := []) hx hb hml hown hts hK hA hl.1 hP hD hS (c_X1_isDigit l E q sg le k  (by first | omega | exact hpd | exact ⟨by omega, by omega⟩)) gX1_placeBehind_X1_isDigit rfl ndX1_isDigit ⟨Nat.le_of_ble_eq_true rfl, Nat.le_of_ble_eq_true rfl⟩ rfl rfl rfl rfl rfl (Nat.le_of_ble_eq_true rfl) dX1_placeBehind_224 ⟨Nat.le_of_ble_eq_true rfl, Nat.le_of_ble_eq_true rfl⟩ (fun x u H locs hpost hP hD hS => ?_)
    subst hpost
    have hP : va_P E.1 vwCl (wPd E q sg le) H := hP
    have hD : va_D A (wPd E q sg le) := hD
    refine z_ifb_eq (tgt := 235) hx hb dX1_placeBehind_227 (by decide) (fun c_227 => ?_) (fun c_227 => ?_)
    · refine lv_aload_n hx hb dX1_placeBehind_235 rfl (lv_at hl 0 rfl) ?_
      refine lv_iload_n hx hb dX1_placeBehind_236 rfl (lv_at hl 2 rfl) ?_
      refine z_callV0 (ci := 1) (qk := 0) (As := [.int (iI k)]) (rest := []) hx hb hml hown hts hK hA hl.1 hP hD hS (c_X1_placeBehindOrder l E q sg le k  (by first | omega | exact hpd | exact ⟨by omega, by omega⟩)) gX1_placeBehind_X1_placeBehindOrder rfl ndX1_placeBehindOrder ⟨Nat.le_of_ble_eq_true rfl, Nat.le_of_ble_eq_true rfl⟩ rfl rfl rfl rfl rfl (Nat.le_of_ble_eq_true rfl) dX1_placeBehind_237 ⟨Nat.le_of_ble_eq_true rfl, Nat.le_of_ble_eq_true rfl⟩ (fun x u H locs hpost hP hD hS => ?_)
      subst hpost
      have hP : va_P E.1 vwCl (wPd E q sg le) H := hP
      have hD : va_D A (wPd E q sg le) := hD
      exact z_iret hx hb hr hlocks hK hS () (by unfold PB; (repeat (first | with_reducible rfl | rw [if_pos (by omega)] | rw [if_neg (by omega)]))) hP hD dX1_placeBehind_240
    · refine lv_bipush (v := iI 12) hx hb dX1_placeBehind_230 (by decide) ?_
      refine lv_goto (tgt := 240) hx hb dX1_placeBehind_232 (by decide) ?_
      exact z_iret hx hb hr hlocks hK hS () (by unfold PB; (repeat (first | with_reducible rfl | rw [if_pos (by omega)] | rw [if_neg (by omega)]))) hP hD dX1_placeBehind_240
  by_cases sw_1_11 : pl = 12
  · refine lv_tableIn (off := 240) (tgt := 241) hx hb dX1_placeBehind_1 (by rw [toInt_iI ⟨by omega, by omega⟩]; omega) (by rw [toInt_iI ⟨by omega, by omega⟩]; omega) (by rw [toInt_iI ⟨by omega, by omega⟩, sw_1_11]; rfl) (by decide) ?_
    refine lv_aload_n hx hb dX1_placeBehind_241 rfl (lv_at hl 0 rfl) ?_
    refine lv_iload_n hx hb dX1_placeBehind_242 rfl (lv_at hl 2 rfl) ?_
    refine z_callV0 (ci := 1) (qk := 0) (As := [.int (iI k)]) (rest := []) hx hb hml hown hts hK hA hl.1 hP hD hS (c_X1_isDigit l E q sg le k  (by first | omega | exact hpd | exact ⟨by omega, by omega⟩)) gX1_placeBehind_X1_isDigit rfl ndX1_isDigit ⟨Nat.le_of_ble_eq_true rfl, Nat.le_of_ble_eq_true rfl⟩ rfl rfl rfl rfl rfl (Nat.le_of_ble_eq_true rfl) dX1_placeBehind_243 ⟨Nat.le_of_ble_eq_true rfl, Nat.le_of_ble_eq_true rfl⟩ (fun x u H locs hpost hP hD hS => ?_)
    subst hpost
    have hP : va_P E.1 vwCl (wPd E q sg le) H := hP
    have hD : va_D A (wPd E q sg le) := hD
    refine z_ifb_eq (tgt := 254) hx hb dX1_placeBehind_246 (by decide) (fun c_246 => ?_) (fun c_246 => ?_)
    · refine lv_aload_n hx hb dX1_placeBehind_254 rfl (lv_at hl 0 rfl) ?_
      refine lv_iload_n hx hb dX1_placeBehind_255 rfl (lv_at hl 2 rfl) ?_
      refine z_callV0 (ci := 1) (qk := 0) (As := [.int (iI k)]) (rest := []) hx hb hml hown hts hK hA hl.1 hP hD hS (c_X1_placeBehindOrder l E q sg le k  (by first | omega | exact hpd | exact ⟨by omega, by omega⟩)) gX1_placeBehind_X1_placeBehindOrder rfl ndX1_placeBehindOrder ⟨Nat.le_of_ble_eq_true rfl, Nat.le_of_ble_eq_true rfl⟩ rfl rfl rfl rfl rfl (Nat.le_of_ble_eq_true rfl) dX1_placeBehind_256 ⟨Nat.le_of_ble_eq_true rfl, Nat.le_of_ble_eq_true rfl⟩ (fun x u H locs hpost hP hD hS => ?_)
      subst hpost
      have hP : va_P E.1 vwCl (wPd E q sg le) H := hP
      have hD : va_D A (wPd E q sg le) := hD
      exact z_iret hx hb hr hlocks hK hS () (by unfold PB; (repeat (first | with_reducible rfl | rw [if_pos (by omega)] | rw [if_neg (by omega)]))) hP hD dX1_placeBehind_259
    · refine lv_bipush (v := iI 13) hx hb dX1_placeBehind_249 (by decide) ?_
      refine lv_goto (tgt := 259) hx hb dX1_placeBehind_251 (by decide) ?_
      exact z_iret hx hb hr hlocks hK hS () (by unfold PB; (repeat (first | with_reducible rfl | rw [if_pos (by omega)] | rw [if_neg (by omega)]))) hP hD dX1_placeBehind_259
  refine lv_tableOut (tgt := 260) hx hb dX1_placeBehind_1 (by rw [toInt_iI ⟨by omega, by omega⟩]; omega) (by decide) ?_
  refine lv_aload_n hx hb dX1_placeBehind_260 rfl (lv_at hl 0 rfl) ?_
  refine lv_iload_n hx hb dX1_placeBehind_261 rfl (lv_at hl 2 rfl) ?_
  refine z_callV0 (ci := 1) (qk := 0) (As := [.int (iI k)]) (rest := []) hx hb hml hown hts hK hA hl.1 hP hD hS (c_X1_placeBehindOrder l E q sg le k  (by first | omega | exact hpd | exact ⟨by omega, by omega⟩)) gX1_placeBehind_X1_placeBehindOrder rfl ndX1_placeBehindOrder ⟨Nat.le_of_ble_eq_true rfl, Nat.le_of_ble_eq_true rfl⟩ rfl rfl rfl rfl rfl (Nat.le_of_ble_eq_true rfl) dX1_placeBehind_262 ⟨Nat.le_of_ble_eq_true rfl, Nat.le_of_ble_eq_true rfl⟩ (fun x u H locs hpost hP hD hS => ?_)
  subst hpost
  have hP : va_P E.1 vwCl (wPd E q sg le) H := hP
  have hD : va_D A (wPd E q sg le) := hD
  exact z_iret hx hb hr hlocks hK hS () (by unfold PB; (repeat (first | with_reducible rfl | rw [if_pos (by omega)] | rw [if_neg (by omega)]))) hP hD dX1_placeBehind_265

theorem ndX1_findFault : yX1_findFault.cls = RX1 ∧ yX1_findFault.cls ≠ "java/lang/invoke/MethodHandle" ∧ yX1_findFault.cls ≠ "java/lang/invoke/VarHandle" ∧ (parseMethodDescriptor yX1_findFault.desc).map (fun d => d.parameters.length) = some 0 := by decide +kernel
set_option maxRecDepth 100000 in
set_option maxHeartbeats 1000000 in
theorem c_X1_findFault (l : Launch) (E : zE) (q : Nat → Nat) (sg : Int → Int) (le : Int) (h0 : PD sg le) (h1 : 0 ≤ le ∧ le ≤ 80) : zF l E yX1_findFault wsX1_findFault 2 45 [.ref (q 0)] (wPd E q sg le) (cF sg le) (wPd E q sg le) := by
  have hpd := h0
  refine zC_of (cc := cX1_findFault) (maxL := 3) (by decide) rfl (Nat.le_of_ble_eq_true rfl) ?_
  intro p e s m below meth c ls A hx hb hr hts hown hlocks hml hK hA hS hP hD hl
  have hown : s.vm.findClass RX1 = some m.cls := hown
  have hl : lv_has ls 3 [(0, .ref (q 0))] := hl
  have hinX1 : ∀ v ∈ u_ws RX1 TX1 2, v ∈ wsX1_findFault := by decide +kernel
  have hf_15 := hts (.fieldLink RX1 15 "GenerationNames$Pad" "length" "I") (by decide +kernel)
  have hf_9 := hts (.fieldLink RX1 9 "GenerationNames$Pad" "signs" "[C") (by decide +kernel)
  refine lv_iconst (v := iI 1) hx hb dX1_findFault_0 (by decide) ?_
  refine lv_istore_n (lv' := [(1, .int (iI 1)), (0, .ref (q 0))]) hx hb dX1_findFault_1 rfl hl (by decide) rfl (fun ls hl => ?_)
  refine lv_iconst (v := iI 0) hx hb dX1_findFault_2 (by decide) ?_
  refine lv_istore_n (lv' := [(2, .int (iI 0)), (1, .int (iI 1)), (0, .ref (q 0))]) hx hb dX1_findFault_3 rfl hl (by decide) rfl (fun ls hl => ?_)
  have hloop4 : ∀ (n : Nat) (l1 : Int) (i1 : Int) (hmu : le - i1 = (n : Int)) (hi4_0 : cFN sg le (le - i1).toNat l1 i1 = cF sg le) (hi4_1 : 0 ≤ i1 ∧ i1 ≤ le) (hi4_2 : 0 ≤ l1 ∧ l1 ≤ 13) (H : Heap) (locs : List Loc) (ls : Array Slot), va_P E.1 vwCl (wPd E q sg le) H → va_D A (wPd E q sg le) → va_S A s.heap H locs → lv_has ls 3 [(2, .int (iI i1)), (1, .int (iI l1)), (0, .ref (q 0))] → W p l e (zR 2 45) s m ([.ref (q 0)] : List Value).toArray below meth c H locs 0 0 (MQ below (zQ E A (S := Unit) (fun x _ => x = (cF sg le)) (fun _ => wPd E q sg le)) ([.ref (q 0)] : List Value).toArray s 0 0 A) (F0 m 4 ls []) := by
    intro n
    induction n using Nat.strongRecOn with
    | ind n ih4 =>
      intro l1 i1 hmu4 hi4_0 hi4_1 hi4_2 H locs ls hP hD hS hl
      refine lv_iload_n hx hb dX1_findFault_4 rfl (lv_at hl 0 rfl) ?_
      refine lv_aload_n hx hb dX1_findFault_5 rfl (lv_at hl 2 rfl) ?_
      refine va_get (D := E.1) (cl := vwCl) (ci := 1) (v := .int (iI le)) (C := RX1) (T := TX1) (N := 2) hx hb hts hinX1 hown hK hP 0 rfl rfl 1 (by decide) hf_15 (fun _ h => h) rfl dX1_findFault_6 ?_
      refine z_icmp_ge (tgt := 36) hx hb dX1_findFault_9 (by decide) ⟨by omega, by omega⟩ ⟨by omega, by omega⟩ (fun c_9 => ?_) (fun c_9 => ?_)
      · refine lv_iload_n hx hb dX1_findFault_36 rfl (lv_at hl 1 rfl) ?_
        refine lv_bipush (v := iI 10) hx hb dX1_findFault_37 (by decide) ?_
        refine z_icmp_lt (tgt := 47) hx hb dX1_findFault_39 (by decide) ⟨by omega, by omega⟩ ⟨by omega, by omega⟩ (fun c_39 => ?_) (fun c_39 => ?_)
        · refine lv_aload_n hx hb dX1_findFault_47 rfl (lv_at hl 2 rfl) ?_
          refine va_get (D := E.1) (cl := vwCl) (ci := 1) (v := .int (iI le)) (C := RX1) (T := TX1) (N := 2) hx hb hts hinX1 hown hK hP 0 rfl rfl 1 (by decide) hf_15 (fun _ h => h) rfl dX1_findFault_48 ?_
          exact z_iret hx hb hr hlocks hK hS () (by first | (rw [← hi4_0, cFN_end (by omega)]; (first | rw [if_pos (by omega)] | rw [if_neg (by omega)])) | (rw [← hi4_0]; exact (cFN_bad (by omega) c_25).symm)) hP hD dX1_findFault_51
        · refine lv_bipush (v := iI (-6)) hx hb dX1_findFault_42 (by decide) ?_
          refine lv_goto (tgt := 51) hx hb dX1_findFault_44 (by decide) ?_
          exact z_iret hx hb hr hlocks hK hS () (by first | (rw [← hi4_0, cFN_end (by omega)]; (first | rw [if_pos (by omega)] | rw [if_neg (by omega)])) | (rw [← hi4_0]; exact (cFN_bad (by omega) c_25).symm)) hP hD dX1_findFault_51
      · refine lv_aload_n hx hb dX1_findFault_12 rfl (lv_at hl 2 rfl) ?_
        refine lv_iload_n hx hb dX1_findFault_13 rfl (lv_at hl 1 rfl) ?_
        have hk := h0 i1 (by omega) (by omega)
        have hpb := PB_rg l1 (sg i1)
        refine lv_aload_n hx hb dX1_findFault_14 rfl (lv_at hl 2 rfl) ?_
        refine va_get (D := E.1) (cl := vwCl) (ci := 1) (v := .ref (q 1)) (C := RX1) (T := TX1) (N := 2) hx hb hts hinX1 hown hK hP 0 rfl rfl 0 (by decide) hf_9 (fun _ h => h) rfl dX1_findFault_15 ?_
        refine lv_iload_n hx hb dX1_findFault_18 rfl (lv_at hl 0 rfl) ?_
        refine z_cald (D := E.1) (cl := vwCl) (tys := zT E) (f := sg) hx hb hK hP 1 2 rfl rfl (by omega) (by omega) (by omega) dX1_findFault_19 ?_
        refine z_callV0 (ci := 1) (qk := 0) (As := [.int (iI l1), .int (iI (sg i1))]) (rest := []) hx hb hml hown hts hK hA hl.1 hP hD hS (c_X1_placeBehind l E q sg le l1 (sg i1)  (by first | omega | exact hpd | exact ⟨by omega, by omega⟩) (by first | omega | exact hpd | exact ⟨by omega, by omega⟩)) gX1_findFault_X1_placeBehind rfl ndX1_placeBehind ⟨Nat.le_of_ble_eq_true rfl, Nat.le_of_ble_eq_true rfl⟩ rfl rfl rfl rfl rfl (Nat.le_of_ble_eq_true rfl) dX1_findFault_20 ⟨Nat.le_of_ble_eq_true rfl, Nat.le_of_ble_eq_true rfl⟩ (fun x u H locs hpost hP hD hS => ?_)
        subst hpost
        have hP : va_P E.1 vwCl (wPd E q sg le) H := hP
        have hD : va_D A (wPd E q sg le) := hD
        refine lv_istore_n (lv' := [(1, .int (iI (PB l1 (sg i1)))), (2, .int (iI i1)), (0, .ref (q 0))]) hx hb dX1_findFault_23 rfl hl (by decide) rfl (fun ls hl => ?_)
        refine lv_iload_n hx hb dX1_findFault_24 rfl (lv_at hl 0 rfl) ?_
        refine z_if_ne (tgt := 30) hx hb dX1_findFault_25 (by decide) ⟨by omega, by omega⟩ (fun c_25 => ?_) (fun c_25 => ?_)
        · refine lv_iinc (v := iI (i1 + 1)) (lv' := [(2, .int (iI (i1 + 1))), (1, .int (iI (PB l1 (sg i1)))), (0, .ref (q 0))]) hx hb dX1_findFault_30 hl (k := 1) rfl (iI_add _ _) (by decide) rfl (fun ls hl => ?_)
          refine lv_goto (tgt := 4) hx hb dX1_findFault_33 (by decide) ?_
          exact ih4 (le - (i1 + 1) : Int).toNat (by omega) (PB l1 (sg i1)) (i1 + 1) (by omega) (by rw [← hi4_0, cFN_step (ps := i1) (pl := l1) (by omega) c_25]) (by omega) (by omega) _ _ ls hP hD hS (lv_sub hl [0, 1, 2] rfl)
        · refine lv_iload_n hx hb dX1_findFault_28 rfl (lv_at hl 1 rfl) ?_
          exact z_iret hx hb hr hlocks hK hS () (by first | (rw [← hi4_0, cFN_end (by omega)]; (first | rw [if_pos (by omega)] | rw [if_neg (by omega)])) | (rw [← hi4_0]; exact (cFN_bad (by omega) c_25).symm)) hP hD dX1_findFault_29
  exact hloop4 (le - 0 : Int).toNat 1 0 (by omega) (by rw [show le - 0 = le by omega]; rfl) (by omega) (by omega) _ _ ls hP hD hS (lv_sub hl [0, 1, 2] rfl)

theorem ndX1_startsOrder : yX1_startsOrder.cls = RX1 ∧ yX1_startsOrder.cls ≠ "java/lang/invoke/MethodHandle" ∧ yX1_startsOrder.cls ≠ "java/lang/invoke/VarHandle" ∧ (parseMethodDescriptor yX1_startsOrder.desc).map (fun d => d.parameters.length) = some 1 := by decide +kernel
set_option maxRecDepth 100000 in
set_option maxHeartbeats 1000000 in
theorem c_X1_startsOrder (l : Launch) (E : zE) (q : Nat → Nat) (sg : Int → Int) (le : Int) (ps : Int) (h0 : PD sg le) (h1 : 0 ≤ ps ∧ ps ≤ 1000) (h2 : 0 ≤ le ∧ le ≤ 80) : zF l E yX1_startsOrder wsX1_startsOrder 1 21 [.ref (q 0), .int (iI ps)] (wPd E q sg le) (zb (ps = 0 ∨ Sg sg le (ps - 1) = 59)) (wPd E q sg le) := by
  have hpd := h0
  have hs := Sg_rg (ps := ps - 1) hpd
  refine zC_of (cc := cX1_startsOrder) (maxL := 2) (by decide) rfl (Nat.le_of_ble_eq_true rfl) ?_
  intro p e s m below meth c ls A hx hb hr hts hown hlocks hml hK hA hS hP hD hl
  have hown : s.vm.findClass RX1 = some m.cls := hown
  have hl : lv_has ls 2 [(0, .ref (q 0)), (1, .int (iI ps))] := hl
  refine lv_iload_n hx hb dX1_startsOrder_0 rfl (lv_at hl 1 rfl) ?_
  refine z_if_eq (tgt := 16) hx hb dX1_startsOrder_1 (by decide) ⟨by omega, by omega⟩ (fun c_1 => ?_) (fun c_1 => ?_)
  · refine lv_iconst (v := iI 1) hx hb dX1_startsOrder_16 (by decide) ?_
    refine lv_goto (tgt := 21) hx hb dX1_startsOrder_17 (by decide) ?_
    exact z_zret hx hb hr hlocks hK hS (Or.inr rfl) () (by first | exact zb_t' (by omega) | exact zb_f' (by omega)) hP hD dX1_startsOrder_21
  · refine lv_aload_n hx hb dX1_startsOrder_4 rfl (lv_at hl 0 rfl) ?_
    refine lv_iload_n hx hb dX1_startsOrder_5 rfl (lv_at hl 1 rfl) ?_
    refine lv_iconst (v := iI 1) hx hb dX1_startsOrder_6 (by decide) ?_
    refine z_isub hx hb dX1_startsOrder_7 ?_
    refine z_callV0 (ci := 1) (qk := 0) (As := [.int (iI (ps - 1))]) (rest := []) hx hb hml hown hts hK hA hl.1 hP hD hS (c_X1_sign l E q sg le (ps - 1)  (by first | omega | exact hpd | exact ⟨by omega, by omega⟩) (by first | omega | exact hpd | exact ⟨by omega, by omega⟩) (by first | omega | exact hpd | exact ⟨by omega, by omega⟩)) gX1_startsOrder_X1_sign rfl ndX1_sign ⟨Nat.le_of_ble_eq_true rfl, Nat.le_of_ble_eq_true rfl⟩ rfl rfl rfl rfl rfl (Nat.le_of_ble_eq_true rfl) dX1_startsOrder_8 ⟨Nat.le_of_ble_eq_true rfl, Nat.le_of_ble_eq_true rfl⟩ (fun x u H locs hpost hP hD hS => ?_)
    subst hpost
    have hP : va_P E.1 vwCl (wPd E q sg le) H := hP
    have hD : va_D A (wPd E q sg le) := hD
    refine lv_bipush (v := iI 59) hx hb dX1_startsOrder_11 (by decide) ?_
    refine z_icmp_ne (tgt := 20) hx hb dX1_startsOrder_13 (by decide) ⟨by omega, by omega⟩ ⟨by omega, by omega⟩ (fun c_13 => ?_) (fun c_13 => ?_)
    · refine lv_iconst (v := iI 0) hx hb dX1_startsOrder_20 (by decide) ?_
      exact z_zret hx hb hr hlocks hK hS (Or.inl rfl) () (by first | exact zb_t' (by omega) | exact zb_f' (by omega)) hP hD dX1_startsOrder_21
    · refine lv_iconst (v := iI 1) hx hb dX1_startsOrder_16 (by decide) ?_
      refine lv_goto (tgt := 21) hx hb dX1_startsOrder_17 (by decide) ?_
      exact z_zret hx hb hr hlocks hK hS (Or.inr rfl) () (by first | exact zb_t' (by omega) | exact zb_f' (by omega)) hP hD dX1_startsOrder_21

theorem ndX1_groupOfOrder : yX1_groupOfOrder.cls = RX1 ∧ yX1_groupOfOrder.cls ≠ "java/lang/invoke/MethodHandle" ∧ yX1_groupOfOrder.cls ≠ "java/lang/invoke/VarHandle" ∧ (parseMethodDescriptor yX1_groupOfOrder.desc).map (fun d => d.parameters.length) = some 1 := by decide +kernel
set_option maxRecDepth 100000 in
set_option maxHeartbeats 1000000 in
theorem c_X1_groupOfOrder (l : Launch) (E : zE) (q : Nat → Nat) (sg : Int → Int) (le : Int) (ps : Int) (h0 : PD sg le) (h1 : 0 ≤ ps ∧ ps ≤ 1000) (h2 : 0 ≤ le ∧ le ≤ 80) : zF l E yX1_groupOfOrder wsX1_groupOfOrder 1 21 [.ref (q 0), .int (iI ps)] (wPd E q sg le) (Sg sg le (ps + 1) - 48) (wPd E q sg le) := by
  have hpd := h0
  refine zC_of (cc := cX1_groupOfOrder) (maxL := 2) (by decide) rfl (Nat.le_of_ble_eq_true rfl) ?_
  intro p e s m below meth c ls A hx hb hr hts hown hlocks hml hK hA hS hP hD hl
  have hown : s.vm.findClass RX1 = some m.cls := hown
  have hl : lv_has ls 2 [(0, .ref (q 0)), (1, .int (iI ps))] := hl
  refine lv_aload_n hx hb dX1_groupOfOrder_0 rfl (lv_at hl 0 rfl) ?_
  refine lv_iload_n hx hb dX1_groupOfOrder_1 rfl (lv_at hl 1 rfl) ?_
  refine lv_iconst (v := iI 1) hx hb dX1_groupOfOrder_2 (by decide) ?_
  refine z_iadd hx hb dX1_groupOfOrder_3 ?_
  refine z_callV0 (ci := 1) (qk := 0) (As := [.int (iI (ps + 1))]) (rest := []) hx hb hml hown hts hK hA hl.1 hP hD hS (c_X1_sign l E q sg le (ps + 1)  (by first | omega | exact hpd | exact ⟨by omega, by omega⟩) (by first | omega | exact hpd | exact ⟨by omega, by omega⟩) (by first | omega | exact hpd | exact ⟨by omega, by omega⟩)) gX1_groupOfOrder_X1_sign rfl ndX1_sign ⟨Nat.le_of_ble_eq_true rfl, Nat.le_of_ble_eq_true rfl⟩ rfl rfl rfl rfl rfl (Nat.le_of_ble_eq_true rfl) dX1_groupOfOrder_4 ⟨Nat.le_of_ble_eq_true rfl, Nat.le_of_ble_eq_true rfl⟩ (fun x u H locs hpost hP hD hS => ?_)
  subst hpost
  have hP : va_P E.1 vwCl (wPd E q sg le) H := hP
  have hD : va_D A (wPd E q sg le) := hD
  refine lv_bipush (v := iI 48) hx hb dX1_groupOfOrder_7 (by decide) ?_
  refine z_isub hx hb dX1_groupOfOrder_9 ?_
  exact z_iret hx hb hr hlocks hK hS () rfl hP hD dX1_groupOfOrder_10

theorem ndX1_nameOfOrder : yX1_nameOfOrder.cls = RX1 ∧ yX1_nameOfOrder.cls ≠ "java/lang/invoke/MethodHandle" ∧ yX1_nameOfOrder.cls ≠ "java/lang/invoke/VarHandle" ∧ (parseMethodDescriptor yX1_nameOfOrder.desc).map (fun d => d.parameters.length) = some 1 := by decide +kernel
set_option maxRecDepth 100000 in
set_option maxHeartbeats 1000000 in
theorem c_X1_nameOfOrder (l : Launch) (E : zE) (q : Nat → Nat) (sg : Int → Int) (le : Int) (ps : Int) (h0 : PD sg le) (h1 : 0 ≤ ps ∧ ps ≤ 1000) (h2 : 0 ≤ le ∧ le ≤ 80) : zF l E yX1_nameOfOrder wsX1_nameOfOrder 1 21 [.ref (q 0), .int (iI ps)] (wPd E q sg le) (nOO sg le ps) (wPd E q sg le) := by
  have hpd := h0
  have hs := Sg_rg (ps := ps + 2) hpd
  refine zC_of (cc := cX1_nameOfOrder) (maxL := 2) (by decide) rfl (Nat.le_of_ble_eq_true rfl) ?_
  intro p e s m below meth c ls A hx hb hr hts hown hlocks hml hK hA hS hP hD hl
  have hown : s.vm.findClass RX1 = some m.cls := hown
  have hl : lv_has ls 2 [(0, .ref (q 0)), (1, .int (iI ps))] := hl
  refine lv_aload_n hx hb dX1_nameOfOrder_0 rfl (lv_at hl 0 rfl) ?_
  refine lv_iload_n hx hb dX1_nameOfOrder_1 rfl (lv_at hl 1 rfl) ?_
  refine lv_iconst (v := iI 2) hx hb dX1_nameOfOrder_2 (by decide) ?_
  refine z_iadd hx hb dX1_nameOfOrder_3 ?_
  refine z_callV0 (ci := 1) (qk := 0) (As := [.int (iI (ps + 2))]) (rest := []) hx hb hml hown hts hK hA hl.1 hP hD hS (c_X1_sign l E q sg le (ps + 2)  (by first | omega | exact hpd | exact ⟨by omega, by omega⟩) (by first | omega | exact hpd | exact ⟨by omega, by omega⟩) (by first | omega | exact hpd | exact ⟨by omega, by omega⟩)) gX1_nameOfOrder_X1_sign rfl ndX1_sign ⟨Nat.le_of_ble_eq_true rfl, Nat.le_of_ble_eq_true rfl⟩ rfl rfl rfl rfl rfl (Nat.le_of_ble_eq_true rfl) dX1_nameOfOrder_4 ⟨Nat.le_of_ble_eq_true rfl, Nat.le_of_ble_eq_true rfl⟩ (fun x u H locs hpost hP hD hS => ?_)
  subst hpost
  have hP : va_P E.1 vwCl (wPd E q sg le) H := hP
  have hD : va_D A (wPd E q sg le) := hD
  by_cases sw_7_0 : (Sg sg le (ps + 2)) = 43
  · refine lv_lookup (off := 25) (tgt := 32) hx hb dX1_nameOfOrder_7 (by decide) (by rw [toInt_iI ⟨by omega, by omega⟩, sw_7_0]; rfl) (by decide) ?_
    refine lv_iconst (v := iI 1) hx hb dX1_nameOfOrder_32 (by decide) ?_
    exact z_iret hx hb hr hlocks hK hS () (by unfold nOO; (repeat (first | with_reducible rfl | rw [if_pos (by omega)] | rw [if_neg (by omega)]))) hP hD dX1_nameOfOrder_33
  by_cases sw_7_1 : (Sg sg le (ps + 2)) = 45
  · refine lv_lookup (off := 27) (tgt := 34) hx hb dX1_nameOfOrder_7 (by decide) (by rw [toInt_iI ⟨by omega, by omega⟩, sw_7_1]; rfl) (by decide) ?_
    refine lv_bipush (v := iI 48) hx hb dX1_nameOfOrder_34 (by decide) ?_
    refine lv_aload_n hx hb dX1_nameOfOrder_36 rfl (lv_at hl 0 rfl) ?_
    refine lv_iload_n hx hb dX1_nameOfOrder_37 rfl (lv_at hl 1 rfl) ?_
    refine lv_iconst (v := iI 3) hx hb dX1_nameOfOrder_38 (by decide) ?_
    refine z_iadd hx hb dX1_nameOfOrder_39 ?_
    refine z_callV0 (ci := 1) (qk := 0) (As := [.int (iI (ps + 3))]) (rest := [.int (iI 48)]) hx hb hml hown hts hK hA hl.1 hP hD hS (c_X1_sign l E q sg le (ps + 3)  (by first | omega | exact hpd | exact ⟨by omega, by omega⟩) (by first | omega | exact hpd | exact ⟨by omega, by omega⟩) (by first | omega | exact hpd | exact ⟨by omega, by omega⟩)) gX1_nameOfOrder_X1_sign rfl ndX1_sign ⟨Nat.le_of_ble_eq_true rfl, Nat.le_of_ble_eq_true rfl⟩ rfl rfl rfl rfl rfl (Nat.le_of_ble_eq_true rfl) dX1_nameOfOrder_40 ⟨Nat.le_of_ble_eq_true rfl, Nat.le_of_ble_eq_true rfl⟩ (fun x u H locs hpost hP hD hS => ?_)
    subst hpost
    have hP : va_P E.1 vwCl (wPd E q sg le) H := hP
    have hD : va_D A (wPd E q sg le) := hD
    refine z_isub hx hb dX1_nameOfOrder_43 ?_
    exact z_iret hx hb hr hlocks hK hS () (by unfold nOO; (repeat (first | with_reducible rfl | rw [if_pos (by omega)] | rw [if_neg (by omega)]))) hP hD dX1_nameOfOrder_44
  refine lv_lookup (off := 38) (tgt := 45) hx hb dX1_nameOfOrder_7 (by decide) (by rw [toInt_iI ⟨by omega, by omega⟩]; show (if (43 : Int) = (Sg sg le (ps + 2)) then (25 : Int) else if (45 : Int) = (Sg sg le (ps + 2)) then (27 : Int) else (38 : Int)) = (38 : Int); rw [if_neg (by omega), if_neg (by omega)]) (by decide) ?_
  refine lv_iconst (v := iI 0) hx hb dX1_nameOfOrder_45 (by decide) ?_
  exact z_iret hx hb hr hlocks hK hS () (by unfold nOO; (repeat (first | with_reducible rfl | rw [if_pos (by omega)] | rw [if_neg (by omega)]))) hP hD dX1_nameOfOrder_46

theorem ndX1_dataOfOrder : yX1_dataOfOrder.cls = RX1 ∧ yX1_dataOfOrder.cls ≠ "java/lang/invoke/MethodHandle" ∧ yX1_dataOfOrder.cls ≠ "java/lang/invoke/VarHandle" ∧ (parseMethodDescriptor yX1_dataOfOrder.desc).map (fun d => d.parameters.length) = some 1 := by decide +kernel
set_option maxRecDepth 100000 in
set_option maxHeartbeats 1000000 in
theorem c_X1_dataOfOrder (l : Launch) (E : zE) (q : Nat → Nat) (sg : Int → Int) (le : Int) (ps : Int) (h0 : PD sg le) (h1 : 0 ≤ ps ∧ ps ≤ 1000) (h2 : 0 ≤ le ∧ le ≤ 80) : zF l E yX1_dataOfOrder wsX1_dataOfOrder 1 21 [.ref (q 0), .int (iI ps)] (wPd E q sg le) (dOO sg le ps) (wPd E q sg le) := by
  have hpd := h0
  have hs := Sg_rg (ps := ps + 2) hpd
  refine zC_of (cc := cX1_dataOfOrder) (maxL := 5) (by decide) rfl (Nat.le_of_ble_eq_true rfl) ?_
  intro p e s m below meth c ls A hx hb hr hts hown hlocks hml hK hA hS hP hD hl
  have hown : s.vm.findClass RX1 = some m.cls := hown
  have hl : lv_has ls 5 [(0, .ref (q 0)), (1, .int (iI ps))] := hl
  have hinX1 : ∀ v ∈ u_ws RX1 TX1 2, v ∈ wsX1_dataOfOrder := by decide +kernel
  have hf_15 := hts (.fieldLink RX1 15 "GenerationNames$Pad" "length" "I") (by decide +kernel)
  refine lv_iload_n hx hb dX1_dataOfOrder_0 rfl (lv_at hl 1 rfl) ?_
  refine lv_aload_n hx hb dX1_dataOfOrder_1 rfl (lv_at hl 0 rfl) ?_
  refine lv_iload_n hx hb dX1_dataOfOrder_2 rfl (lv_at hl 1 rfl) ?_
  refine lv_iconst (v := iI 2) hx hb dX1_dataOfOrder_3 (by decide) ?_
  refine z_iadd hx hb dX1_dataOfOrder_4 ?_
  refine z_callV0 (ci := 1) (qk := 0) (As := [.int (iI (ps + 2))]) (rest := [.int (iI ps)]) hx hb hml hown hts hK hA hl.1 hP hD hS (c_X1_sign l E q sg le (ps + 2)  (by first | omega | exact hpd | exact ⟨by omega, by omega⟩) (by first | omega | exact hpd | exact ⟨by omega, by omega⟩) (by first | omega | exact hpd | exact ⟨by omega, by omega⟩)) gX1_dataOfOrder_X1_sign rfl ndX1_sign ⟨Nat.le_of_ble_eq_true rfl, Nat.le_of_ble_eq_true rfl⟩ rfl rfl rfl rfl rfl (Nat.le_of_ble_eq_true rfl) dX1_dataOfOrder_5 ⟨Nat.le_of_ble_eq_true rfl, Nat.le_of_ble_eq_true rfl⟩ (fun x u H locs hpost hP hD hS => ?_)
  subst hpost
  have hP : va_P E.1 vwCl (wPd E q sg le) H := hP
  have hD : va_D A (wPd E q sg le) := hD
  refine lv_bipush (v := iI 45) hx hb dX1_dataOfOrder_8 (by decide) ?_
  refine z_icmp_ne (tgt := 17) hx hb dX1_dataOfOrder_10 (by decide) ⟨by omega, by omega⟩ ⟨by omega, by omega⟩ (fun c_10 => ?_) (fun c_10 => ?_)
  · refine lv_iconst (v := iI 4) hx hb dX1_dataOfOrder_17 (by decide) ?_
    refine z_iadd hx hb dX1_dataOfOrder_18 ?_
    refine lv_istore_n (lv' := [(2, .int (iI (ps + 4))), (0, .ref (q 0)), (1, .int (iI ps))]) hx hb dX1_dataOfOrder_19 rfl hl (by decide) rfl (fun ls hl => ?_)
    refine lv_iconst (v := iI 0) hx hb dX1_dataOfOrder_20 (by decide) ?_
    refine lv_istore_n (lv' := [(3, .int (iI 0)), (2, .int (iI (ps + 4))), (0, .ref (q 0)), (1, .int (iI ps))]) hx hb dX1_dataOfOrder_21 rfl hl (by decide) rfl (fun ls hl => ?_)
    refine lv_iload_n hx hb dX1_dataOfOrder_22 rfl (lv_at hl 1 rfl) ?_
    refine lv_istore (lv' := [(4, .int (iI (ps + 4))), (3, .int (iI 0)), (2, .int (iI (ps + 4))), (0, .ref (q 0)), (1, .int (iI ps))]) hx hb dX1_dataOfOrder_23 hl (by decide) rfl (fun ls hl => ?_)
    have hloop25 : ∀ (n : Nat) (v1 : Int) (i1 : Int) (hmu : 3000 - i1 = (n : Int)) (hi25_0 : dN sg le (le - i1).toNat v1 i1 = dN sg le (le - (ps + 4)).toNat 0 (ps + 4)) (hi25_1 : 0 ≤ i1 ∧ i1 ≤ 2000) (H : Heap) (locs : List Loc) (ls : Array Slot), va_P E.1 vwCl (wPd E q sg le) H → va_D A (wPd E q sg le) → va_S A s.heap H locs → lv_has ls 5 [(4, .int (iI i1)), (3, .int (iI v1)), (2, .int (iI (ps + 4))), (0, .ref (q 0)), (1, .int (iI ps))] → W p l e (zR 1 21) s m ([.ref (q 0), .int (iI ps)] : List Value).toArray below meth c H locs 0 0 (MQ below (zQ E A (S := Unit) (fun x _ => x = (dOO sg le ps)) (fun _ => wPd E q sg le)) ([.ref (q 0), .int (iI ps)] : List Value).toArray s 0 0 A) (F0 m 25 ls []) := by
      intro n
      induction n using Nat.strongRecOn with
      | ind n ih25 =>
        intro v1 i1 hmu25 hi25_0 hi25_1 H locs ls hP hD hS hl
        refine lv_iload hx hb dX1_dataOfOrder_25 (lv_at hl 0 rfl) ?_
        refine lv_aload_n hx hb dX1_dataOfOrder_27 rfl (lv_at hl 3 rfl) ?_
        refine va_get (D := E.1) (cl := vwCl) (ci := 1) (v := .int (iI le)) (C := RX1) (T := TX1) (N := 2) hx hb hts hinX1 hown hK hP 0 rfl rfl 1 (by decide) hf_15 (fun _ h => h) rfl dX1_dataOfOrder_28 ?_
        refine z_icmp_ge (tgt := 68) hx hb dX1_dataOfOrder_31 (by decide) ⟨by omega, by omega⟩ ⟨by omega, by omega⟩ (fun c_31 => ?_) (fun c_31 => ?_)
        · refine lv_iload_n hx hb dX1_dataOfOrder_68 rfl (lv_at hl 1 rfl) ?_
          exact z_iret hx hb hr hlocks hK hS () (by unfold dOO; (first | rw [if_pos c_10] | rw [if_neg c_10]); rw [← hi25_0]; exact (dN_stop (by omega) _).symm) hP hD dX1_dataOfOrder_69
        · refine lv_aload_n hx hb dX1_dataOfOrder_34 rfl (lv_at hl 3 rfl) ?_
          refine lv_aload_n hx hb dX1_dataOfOrder_35 rfl (lv_at hl 3 rfl) ?_
          refine lv_iload hx hb dX1_dataOfOrder_36 (lv_at hl 0 rfl) ?_
          refine z_callV0 (ci := 1) (qk := 0) (As := [.int (iI i1)]) (rest := [.ref (q 0)]) hx hb hml hown hts hK hA hl.1 hP hD hS (c_X1_sign l E q sg le i1  (by first | omega | exact hpd | exact ⟨by omega, by omega⟩) (by first | omega | exact hpd | exact ⟨by omega, by omega⟩) (by first | omega | exact hpd | exact ⟨by omega, by omega⟩)) gX1_dataOfOrder_X1_sign rfl ndX1_sign ⟨Nat.le_of_ble_eq_true rfl, Nat.le_of_ble_eq_true rfl⟩ rfl rfl rfl rfl rfl (Nat.le_of_ble_eq_true rfl) dX1_dataOfOrder_38 ⟨Nat.le_of_ble_eq_true rfl, Nat.le_of_ble_eq_true rfl⟩ (fun x u H locs hpost hP hD hS => ?_)
          subst hpost
          have hP : va_P E.1 vwCl (wPd E q sg le) H := hP
          have hD : va_D A (wPd E q sg le) := hD
          have hs2 := Sg_rg (ps := i1) hpd
          refine z_callV0 (ci := 1) (qk := 0) (As := [.int (iI (Sg sg le i1))]) (rest := []) hx hb hml hown hts hK hA hl.1 hP hD hS (c_X1_isDigit l E q sg le (Sg sg le i1)  (by first | omega | exact hpd | exact ⟨by omega, by omega⟩)) gX1_dataOfOrder_X1_isDigit rfl ndX1_isDigit ⟨Nat.le_of_ble_eq_true rfl, Nat.le_of_ble_eq_true rfl⟩ rfl rfl rfl rfl rfl (Nat.le_of_ble_eq_true rfl) dX1_dataOfOrder_41 ⟨Nat.le_of_ble_eq_true rfl, Nat.le_of_ble_eq_true rfl⟩ (fun x u H locs hpost hP hD hS => ?_)
          subst hpost
          have hP : va_P E.1 vwCl (wPd E q sg le) H := hP
          have hD : va_D A (wPd E q sg le) := hD
          refine z_ifb_eq (tgt := 68) hx hb dX1_dataOfOrder_44 (by decide) (fun c_44 => ?_) (fun c_44 => ?_)
          · refine lv_iload_n hx hb dX1_dataOfOrder_68 rfl (lv_at hl 1 rfl) ?_
            exact z_iret hx hb hr hlocks hK hS () (by unfold dOO; (first | rw [if_pos c_10] | rw [if_neg c_10]); rw [← hi25_0]; exact (dN_stop (by omega) _).symm) hP hD dX1_dataOfOrder_69
          · refine lv_bipush (v := iI 10) hx hb dX1_dataOfOrder_47 (by decide) ?_
            refine lv_iload_n hx hb dX1_dataOfOrder_49 rfl (lv_at hl 1 rfl) ?_
            refine z_imul hx hb dX1_dataOfOrder_50 ?_
            refine lv_aload_n hx hb dX1_dataOfOrder_51 rfl (lv_at hl 3 rfl) ?_
            refine lv_iload hx hb dX1_dataOfOrder_52 (lv_at hl 0 rfl) ?_
            refine z_callV0 (ci := 1) (qk := 0) (As := [.int (iI i1)]) (rest := [.int (iI (10 * v1))]) hx hb hml hown hts hK hA hl.1 hP hD hS (c_X1_sign l E q sg le i1  (by first | omega | exact hpd | exact ⟨by omega, by omega⟩) (by first | omega | exact hpd | exact ⟨by omega, by omega⟩) (by first | omega | exact hpd | exact ⟨by omega, by omega⟩)) gX1_dataOfOrder_X1_sign rfl ndX1_sign ⟨Nat.le_of_ble_eq_true rfl, Nat.le_of_ble_eq_true rfl⟩ rfl rfl rfl rfl rfl (Nat.le_of_ble_eq_true rfl) dX1_dataOfOrder_54 ⟨Nat.le_of_ble_eq_true rfl, Nat.le_of_ble_eq_true rfl⟩ (fun x u H locs hpost hP hD hS => ?_)
            subst hpost
            have hP : va_P E.1 vwCl (wPd E q sg le) H := hP
            have hD : va_D A (wPd E q sg le) := hD
            refine z_iadd hx hb dX1_dataOfOrder_57 ?_
            refine lv_bipush (v := iI 48) hx hb dX1_dataOfOrder_58 (by decide) ?_
            refine z_isub hx hb dX1_dataOfOrder_60 ?_
            refine lv_istore_n (lv' := [(3, .int (iI (((10 * v1) + (Sg sg le i1)) - 48))), (4, .int (iI i1)), (2, .int (iI (ps + 4))), (0, .ref (q 0)), (1, .int (iI ps))]) hx hb dX1_dataOfOrder_61 rfl hl (by decide) rfl (fun ls hl => ?_)
            refine lv_iinc (v := iI (i1 + 1)) (lv' := [(4, .int (iI (i1 + 1))), (3, .int (iI (((10 * v1) + (Sg sg le i1)) - 48))), (2, .int (iI (ps + 4))), (0, .ref (q 0)), (1, .int (iI ps))]) hx hb dX1_dataOfOrder_62 hl (k := 1) rfl (iI_add _ _) (by decide) rfl (fun ls hl => ?_)
            refine lv_goto (tgt := 25) hx hb dX1_dataOfOrder_65 (by decide) ?_
            exact ih25 (3000 - (i1 + 1) : Int).toNat (by omega) (((10 * v1) + (Sg sg le i1)) - 48) (i1 + 1) (by omega) (by rw [← hi25_0, dN_step (v := v1) (i := i1) (by omega)]) (by omega) _ _ ls hP hD hS (lv_sub hl [0, 1, 2, 3, 4] rfl)
    exact hloop25 (3000 - (ps + 4) : Int).toNat 0 (ps + 4) (by omega) (rfl) (by omega) _ _ ls hP hD hS (lv_sub hl [0, 1, 2, 3, 4] rfl)
  · refine lv_iconst (v := iI 5) hx hb dX1_dataOfOrder_13 (by decide) ?_
    refine lv_goto (tgt := 18) hx hb dX1_dataOfOrder_14 (by decide) ?_
    refine z_iadd hx hb dX1_dataOfOrder_18 ?_
    refine lv_istore_n (lv' := [(2, .int (iI (ps + 5))), (0, .ref (q 0)), (1, .int (iI ps))]) hx hb dX1_dataOfOrder_19 rfl hl (by decide) rfl (fun ls hl => ?_)
    refine lv_iconst (v := iI 0) hx hb dX1_dataOfOrder_20 (by decide) ?_
    refine lv_istore_n (lv' := [(3, .int (iI 0)), (2, .int (iI (ps + 5))), (0, .ref (q 0)), (1, .int (iI ps))]) hx hb dX1_dataOfOrder_21 rfl hl (by decide) rfl (fun ls hl => ?_)
    refine lv_iload_n hx hb dX1_dataOfOrder_22 rfl (lv_at hl 1 rfl) ?_
    refine lv_istore (lv' := [(4, .int (iI (ps + 5))), (3, .int (iI 0)), (2, .int (iI (ps + 5))), (0, .ref (q 0)), (1, .int (iI ps))]) hx hb dX1_dataOfOrder_23 hl (by decide) rfl (fun ls hl => ?_)
    have hloop25 : ∀ (n : Nat) (v1 : Int) (i1 : Int) (hmu : 3000 - i1 = (n : Int)) (hi25_0 : dN sg le (le - i1).toNat v1 i1 = dN sg le (le - (ps + 5)).toNat 0 (ps + 5)) (hi25_1 : 0 ≤ i1 ∧ i1 ≤ 2000) (H : Heap) (locs : List Loc) (ls : Array Slot), va_P E.1 vwCl (wPd E q sg le) H → va_D A (wPd E q sg le) → va_S A s.heap H locs → lv_has ls 5 [(4, .int (iI i1)), (3, .int (iI v1)), (2, .int (iI (ps + 5))), (0, .ref (q 0)), (1, .int (iI ps))] → W p l e (zR 1 21) s m ([.ref (q 0), .int (iI ps)] : List Value).toArray below meth c H locs 0 0 (MQ below (zQ E A (S := Unit) (fun x _ => x = (dOO sg le ps)) (fun _ => wPd E q sg le)) ([.ref (q 0), .int (iI ps)] : List Value).toArray s 0 0 A) (F0 m 25 ls []) := by
      intro n
      induction n using Nat.strongRecOn with
      | ind n ih25 =>
        intro v1 i1 hmu25 hi25_0 hi25_1 H locs ls hP hD hS hl
        refine lv_iload hx hb dX1_dataOfOrder_25 (lv_at hl 0 rfl) ?_
        refine lv_aload_n hx hb dX1_dataOfOrder_27 rfl (lv_at hl 3 rfl) ?_
        refine va_get (D := E.1) (cl := vwCl) (ci := 1) (v := .int (iI le)) (C := RX1) (T := TX1) (N := 2) hx hb hts hinX1 hown hK hP 0 rfl rfl 1 (by decide) hf_15 (fun _ h => h) rfl dX1_dataOfOrder_28 ?_
        refine z_icmp_ge (tgt := 68) hx hb dX1_dataOfOrder_31 (by decide) ⟨by omega, by omega⟩ ⟨by omega, by omega⟩ (fun c_31 => ?_) (fun c_31 => ?_)
        · refine lv_iload_n hx hb dX1_dataOfOrder_68 rfl (lv_at hl 1 rfl) ?_
          exact z_iret hx hb hr hlocks hK hS () (by unfold dOO; (first | rw [if_pos c_10] | rw [if_neg c_10]); rw [← hi25_0]; exact (dN_stop (by omega) _).symm) hP hD dX1_dataOfOrder_69
        · refine lv_aload_n hx hb dX1_dataOfOrder_34 rfl (lv_at hl 3 rfl) ?_
          refine lv_aload_n hx hb dX1_dataOfOrder_35 rfl (lv_at hl 3 rfl) ?_
          refine lv_iload hx hb dX1_dataOfOrder_36 (lv_at hl 0 rfl) ?_
          refine z_callV0 (ci := 1) (qk := 0) (As := [.int (iI i1)]) (rest := [.ref (q 0)]) hx hb hml hown hts hK hA hl.1 hP hD hS (c_X1_sign l E q sg le i1  (by first | omega | exact hpd | exact ⟨by omega, by omega⟩) (by first | omega | exact hpd | exact ⟨by omega, by omega⟩) (by first | omega | exact hpd | exact ⟨by omega, by omega⟩)) gX1_dataOfOrder_X1_sign rfl ndX1_sign ⟨Nat.le_of_ble_eq_true rfl, Nat.le_of_ble_eq_true rfl⟩ rfl rfl rfl rfl rfl (Nat.le_of_ble_eq_true rfl) dX1_dataOfOrder_38 ⟨Nat.le_of_ble_eq_true rfl, Nat.le_of_ble_eq_true rfl⟩ (fun x u H locs hpost hP hD hS => ?_)
          subst hpost
          have hP : va_P E.1 vwCl (wPd E q sg le) H := hP
          have hD : va_D A (wPd E q sg le) := hD
          have hs2 := Sg_rg (ps := i1) hpd
          refine z_callV0 (ci := 1) (qk := 0) (As := [.int (iI (Sg sg le i1))]) (rest := []) hx hb hml hown hts hK hA hl.1 hP hD hS (c_X1_isDigit l E q sg le (Sg sg le i1)  (by first | omega | exact hpd | exact ⟨by omega, by omega⟩)) gX1_dataOfOrder_X1_isDigit rfl ndX1_isDigit ⟨Nat.le_of_ble_eq_true rfl, Nat.le_of_ble_eq_true rfl⟩ rfl rfl rfl rfl rfl (Nat.le_of_ble_eq_true rfl) dX1_dataOfOrder_41 ⟨Nat.le_of_ble_eq_true rfl, Nat.le_of_ble_eq_true rfl⟩ (fun x u H locs hpost hP hD hS => ?_)
          subst hpost
          have hP : va_P E.1 vwCl (wPd E q sg le) H := hP
          have hD : va_D A (wPd E q sg le) := hD
          refine z_ifb_eq (tgt := 68) hx hb dX1_dataOfOrder_44 (by decide) (fun c_44 => ?_) (fun c_44 => ?_)
          · refine lv_iload_n hx hb dX1_dataOfOrder_68 rfl (lv_at hl 1 rfl) ?_
            exact z_iret hx hb hr hlocks hK hS () (by unfold dOO; (first | rw [if_pos c_10] | rw [if_neg c_10]); rw [← hi25_0]; exact (dN_stop (by omega) _).symm) hP hD dX1_dataOfOrder_69
          · refine lv_bipush (v := iI 10) hx hb dX1_dataOfOrder_47 (by decide) ?_
            refine lv_iload_n hx hb dX1_dataOfOrder_49 rfl (lv_at hl 1 rfl) ?_
            refine z_imul hx hb dX1_dataOfOrder_50 ?_
            refine lv_aload_n hx hb dX1_dataOfOrder_51 rfl (lv_at hl 3 rfl) ?_
            refine lv_iload hx hb dX1_dataOfOrder_52 (lv_at hl 0 rfl) ?_
            refine z_callV0 (ci := 1) (qk := 0) (As := [.int (iI i1)]) (rest := [.int (iI (10 * v1))]) hx hb hml hown hts hK hA hl.1 hP hD hS (c_X1_sign l E q sg le i1  (by first | omega | exact hpd | exact ⟨by omega, by omega⟩) (by first | omega | exact hpd | exact ⟨by omega, by omega⟩) (by first | omega | exact hpd | exact ⟨by omega, by omega⟩)) gX1_dataOfOrder_X1_sign rfl ndX1_sign ⟨Nat.le_of_ble_eq_true rfl, Nat.le_of_ble_eq_true rfl⟩ rfl rfl rfl rfl rfl (Nat.le_of_ble_eq_true rfl) dX1_dataOfOrder_54 ⟨Nat.le_of_ble_eq_true rfl, Nat.le_of_ble_eq_true rfl⟩ (fun x u H locs hpost hP hD hS => ?_)
            subst hpost
            have hP : va_P E.1 vwCl (wPd E q sg le) H := hP
            have hD : va_D A (wPd E q sg le) := hD
            refine z_iadd hx hb dX1_dataOfOrder_57 ?_
            refine lv_bipush (v := iI 48) hx hb dX1_dataOfOrder_58 (by decide) ?_
            refine z_isub hx hb dX1_dataOfOrder_60 ?_
            refine lv_istore_n (lv' := [(3, .int (iI (((10 * v1) + (Sg sg le i1)) - 48))), (4, .int (iI i1)), (2, .int (iI (ps + 5))), (0, .ref (q 0)), (1, .int (iI ps))]) hx hb dX1_dataOfOrder_61 rfl hl (by decide) rfl (fun ls hl => ?_)
            refine lv_iinc (v := iI (i1 + 1)) (lv' := [(4, .int (iI (i1 + 1))), (3, .int (iI (((10 * v1) + (Sg sg le i1)) - 48))), (2, .int (iI (ps + 5))), (0, .ref (q 0)), (1, .int (iI ps))]) hx hb dX1_dataOfOrder_62 hl (k := 1) rfl (iI_add _ _) (by decide) rfl (fun ls hl => ?_)
            refine lv_goto (tgt := 25) hx hb dX1_dataOfOrder_65 (by decide) ?_
            exact ih25 (3000 - (i1 + 1) : Int).toNat (by omega) (((10 * v1) + (Sg sg le i1)) - 48) (i1 + 1) (by omega) (by rw [← hi25_0, dN_step (v := v1) (i := i1) (by omega)]) (by omega) _ _ ls hP hD hS (lv_sub hl [0, 1, 2, 3, 4] rfl)
    exact hloop25 (3000 - (ps + 5) : Int).toNat 0 (ps + 5) (by omega) (rfl) (by omega) _ _ ls hP hD hS (lv_sub hl [0, 1, 2, 3, 4] rfl)
