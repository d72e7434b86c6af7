theorem ndX4_readOrder : yX4_readOrder.cls = RX4 ∧ yX4_readOrder.cls ≠ "java/lang/invoke/MethodHandle" ∧ yX4_readOrder.cls ≠ "java/lang/invoke/VarHandle" ∧ (parseMethodDescriptor yX4_readOrder.desc).map (fun d => d.parameters.length) = some 0 := by decide +kernel
set_option maxRecDepth 100000 in
set_option maxHeartbeats 1000000 in
theorem c_X4_readOrder (l : Launch) (E : zE) (q : Nat → Nat) (z pa sl sv sp pd od : Int → Int) (pm ty om st wr : Int) (h0 : PD pd ty) (h1 : 0 ≤ st ∧ st ≤ 900) (h2 : 0 ≤ ty ∧ ty ≤ 80) (h3 : -6 ≤ wr ∧ wr ≤ 1000) (h4 : 0 ≤ om ∧ om ≤ 40) : zFv l E yX4_readOrder wsX4_readOrder 3 67 [.ref (q 0)] (wM E q z pa sl sv sp pd od pm ty om st wr) (wM E q z pa sl sv sp pd (roD pd ty wr st od om) pm ty (om + 1) (roS pd ty wr st) (roW pd ty wr st)) := by
  have hpd := h0
  have hlt := Lt_rg (st := st) hpd h1.1
  have hq := q_rg (pd := pd) (ty := ty) h1 h3
  have hl3 := Lt_rg (st := q3S pd ty wr st) hpd (by omega)
  refine zCv_of (cc := cX4_readOrder) (maxL := 4) (by decide) rfl (Nat.le_of_ble_eq_true rfl) ?_
  intro p e s m below meth c ls A hx hb hr hts hown hlocks hml hK hA hS hP hD hl
  have hown : s.vm.findClass RX4 = some m.cls := hown
  have hl : lv_has ls 4 [(0, .ref (q 0))] := hl
  have hinX4 : ∀ v ∈ u_ws RX4 TX4 12, v ∈ wsX4_readOrder := by decide +kernel
  have hf_181 := hts (.fieldLink RX4 181 "GenerationNamesModel" "orderMany" "I") (by decide +kernel)
  have hf_30 := hts (.fieldLink RX4 30 "GenerationNamesModel" "orders" "[I") (by decide +kernel)
  refine lv_iconst (v := iI 4) hx hb dX4_readOrder_0 (by decide) ?_
  refine lv_aload_n hx hb dX4_readOrder_1 rfl (lv_at hl 0 rfl) ?_
  refine va_get (D := E.1) (cl := vwCl) (ci := 4) (v := .int (iI om)) (C := RX4) (T := TX4) (N := 12) hx hb hts hinX4 hown hK hP 0 rfl rfl 9 (by decide) hf_181 (fun _ h => h) rfl dX4_readOrder_2 ?_
  refine z_imul hx hb dX4_readOrder_5 ?_
  refine lv_istore_n (lv' := [(1, .int (iI (4 * om))), (0, .ref (q 0))]) hx hb dX4_readOrder_6 rfl hl (by decide) rfl (fun ls hl => ?_)
  refine lv_aload_n hx hb dX4_readOrder_7 rfl (lv_at hl 1 rfl) ?_
  refine z_callV0 (ci := 4) (qk := 0) (As := []) (rest := []) hx hb hml hown hts hK hA hl.1 hP hD hS (c_X4_letter l E q z pa sl sv sp pd od pm ty om st wr   (by first | omega | exact hpd | exact ⟨by omega, by omega⟩ | exact zb_01) (by first | omega | exact hpd | exact ⟨by omega, by omega⟩ | exact zb_01) (by first | omega | exact hpd | exact ⟨by omega, by omega⟩ | exact zb_01)) gX4_readOrder_X4_letter rfl ndX4_letter ⟨Nat.le_of_ble_eq_true rfl, Nat.le_of_ble_eq_true rfl⟩ rfl rfl rfl rfl rfl (Nat.le_of_ble_eq_true rfl) dX4_readOrder_8 ⟨Nat.le_of_ble_eq_true rfl, Nat.le_of_ble_eq_true rfl⟩ (fun x u H locs hpost hP hD hS => ?_)
  subst hpost
  have hP : va_P E.1 vwCl (wM E q z pa sl sv sp pd od pm ty om st wr) H := hP
  have hD : va_D A (wM E q z pa sl sv sp pd od pm ty om st wr) := hD
  refine lv_istore_n (lv' := [(2, .int (iI (Lt pd ty st))), (1, .int (iI (4 * om))), (0, .ref (q 0))]) hx hb dX4_readOrder_11 rfl hl (by decide) rfl (fun ls hl => ?_)
  refine lv_aload_n hx hb dX4_readOrder_12 rfl (lv_at hl 2 rfl) ?_
  refine va_get (D := E.1) (cl := vwCl) (ci := 4) (v := .ref (q 7)) (C := RX4) (T := TX4) (N := 12) hx hb hts hinX4 hown hK hP 0 rfl rfl 8 (by decide) hf_30 (fun _ h => h) rfl dX4_readOrder_13 ?_
  refine lv_iload_n hx hb dX4_readOrder_16 rfl (lv_at hl 1 rfl) ?_
  refine lv_iload_n hx hb dX4_readOrder_17 rfl (lv_at hl 0 rfl) ?_
  refine z_iast (D := E.1) (cl := vwCl) (tys := zT E) (f := od) hx hb hK hP hD hS 7 0 rfl rfl (by omega) (by omega) (by omega) dX4_readOrder_18 (fun H locs hP hD hS => ?_)
  have hP : va_P E.1 vwCl (wM E q z pa sl sv sp pd (iU od (4 * om) (Lt pd ty st)) pm ty om st wr) H := hP
  have hD : va_D A (wM E q z pa sl sv sp pd (iU od (4 * om) (Lt pd ty st)) pm ty om st wr) := hD
  refine lv_iload_n hx hb dX4_readOrder_19 rfl (lv_at hl 0 rfl) ?_
  refine lv_bipush (v := iI 119) hx hb dX4_readOrder_20 (by decide) ?_
  refine z_icmp_eq (tgt := 37) hx hb dX4_readOrder_22 (by decide) ⟨by first | omega | exact (hz _ _ (by omega)).1 | exact (hz _ _ (by omega)).2, by first | omega | exact (hz _ _ (by omega)).1 | exact (hz _ _ (by omega)).2⟩ ⟨by first | omega | exact (hz _ _ (by omega)).1 | exact (hz _ _ (by omega)).2, by first | omega | exact (hz _ _ (by omega)).1 | exact (hz _ _ (by omega)).2⟩ (fun c_22 => ?_) (fun c_22 => ?_)
  · refine lv_iconst (v := iI 1) hx hb dX4_readOrder_37 (by decide) ?_
    refine lv_goto (tgt := 42) hx hb dX4_readOrder_38 (by decide) ?_
    refine lv_istore_n (lv' := [(3, .int (iI 1)), (2, .int (iI (Lt pd ty st))), (1, .int (iI (4 * om))), (0, .ref (q 0))]) hx hb dX4_readOrder_42 rfl hl (by decide) rfl (fun ls hl => ?_)
    refine lv_aload_n hx hb dX4_readOrder_43 rfl (lv_at hl 3 rfl) ?_
    refine lv_iload_n hx hb dX4_readOrder_44 rfl (lv_at hl 0 rfl) ?_
    refine z_if_ne (tgt := 72) hx hb dX4_readOrder_45 (by decide) ⟨by first | omega | exact (hz _ _ (by omega)).1 | exact (hz _ _ (by omega)).2, by first | omega | exact (hz _ _ (by omega)).1 | exact (hz _ _ (by omega)).2⟩ (fun c_45 => ?_) (fun c_45 => absurd c_45 (by omega))
    refine lv_iconst (v := iI 1) hx hb dX4_readOrder_72 (by decide) ?_
    refine lv_goto (tgt := 77) hx hb dX4_readOrder_73 (by decide) ?_
    refine z_callVv0 (ci := 4) (qk := 0) (As := [.int (iI 1)]) (rest := []) hx hb hml hown hts hK hA hl.1 hP hD hS (c_X4_wants l E q z pa sl sv sp pd (iU od (4 * om) (Lt pd ty st)) pm ty om st wr 1  (by first | omega | exact hpd | exact ⟨by omega, by omega⟩ | exact zb_01) (by first | omega | exact hpd | exact ⟨by omega, by omega⟩ | exact zb_01) (by first | omega | exact hpd | exact ⟨by omega, by omega⟩ | exact zb_01)) gX4_readOrder_X4_wants rfl ndX4_wants ⟨Nat.le_of_ble_eq_true rfl, Nat.le_of_ble_eq_true rfl⟩ rfl rfl rfl rfl rfl (Nat.le_of_ble_eq_true rfl) dX4_readOrder_77 ⟨Nat.le_of_ble_eq_true rfl, Nat.le_of_ble_eq_true rfl⟩ (fun u H locs hpost hP hD hS => ?_)
    have hP : va_P E.1 vwCl (wM E q z pa sl sv sp pd (iU od (4 * om) (Lt pd ty st)) pm ty om (wS wr st) (wW 1 wr st)) H := hP
    have hD : va_D A (wM E q z pa sl sv sp pd (iU od (4 * om) (Lt pd ty st)) pm ty om (wS wr st) (wW 1 wr st)) := hD
    have hw1 : q1W pd ty wr st = (wW 1 wr st) := by unfold q1W; first | rw [zb_t (by omega)] | rw [zb_f (by omega)]
    rw [← hw1] at hP hD
    refine lv_iload_n hx hb dX4_readOrder_80 rfl (lv_at hl 0 rfl) ?_
    refine z_if_eq (tgt := 110) hx hb dX4_readOrder_81 (by decide) ⟨by first | omega | exact (hz _ _ (by omega)).1 | exact (hz _ _ (by omega)).2, by first | omega | exact (hz _ _ (by omega)).1 | exact (hz _ _ (by omega)).2⟩ (fun c_81 => absurd c_81 (by omega)) (fun c_81 => ?_)
    have hP : va_P E.1 vwCl (wM E q z pa sl sv sp pd (iU od (4 * om) (Lt pd ty st)) pm ty om (q1S wr st) (q1W pd ty wr st)) H := hP
    have hD : va_D A (wM E q z pa sl sv sp pd (iU od (4 * om) (Lt pd ty st)) pm ty om (q1S wr st) (q1W pd ty wr st)) := hD
    refine lv_aload_n hx hb dX4_readOrder_84 rfl (lv_at hl 3 rfl) ?_
    refine va_get (D := E.1) (cl := vwCl) (ci := 4) (v := .ref (q 7)) (C := RX4) (T := TX4) (N := 12) hx hb hts hinX4 hown hK hP 0 rfl rfl 8 (by decide) hf_30 (fun _ h => h) rfl dX4_readOrder_85 ?_
    refine lv_iload_n hx hb dX4_readOrder_88 rfl (lv_at hl 2 rfl) ?_
    refine lv_iconst (v := iI 1) hx hb dX4_readOrder_89 (by decide) ?_
    refine z_iadd hx hb dX4_readOrder_90 ?_
    refine lv_aload_n hx hb dX4_readOrder_91 rfl (lv_at hl 3 rfl) ?_
    refine lv_iconst (v := iI 0) hx hb dX4_readOrder_92 (by decide) ?_
    refine lv_iconst (v := iI 5) hx hb dX4_readOrder_93 (by decide) ?_
    refine z_callV0 (ci := 4) (qk := 0) (As := [.int (iI 0), .int (iI 5)]) (rest := [.int (iI ((4 * om) + 1)), .ref (q 7)]) hx hb hml hown hts hK hA hl.1 hP hD hS (c_X4_digit l E q z pa sl sv sp pd (iU od (4 * om) (Lt pd ty st)) pm ty om (q1S wr st) (q1W pd ty wr st) 0 5  (by first | omega | exact hpd | exact ⟨by omega, by omega⟩ | exact zb_01) (by first | omega | exact hpd | exact ⟨by omega, by omega⟩ | exact zb_01) (by first | omega | exact hpd | exact ⟨by omega, by omega⟩ | exact zb_01) (by first | omega | exact hpd | exact ⟨by omega, by omega⟩ | exact zb_01) (by first | omega | exact hpd | exact ⟨by omega, by omega⟩ | exact zb_01) (by first | omega | exact hpd | exact ⟨by omega, by omega⟩ | exact zb_01)) gX4_readOrder_X4_digit rfl ndX4_digit ⟨Nat.le_of_ble_eq_true rfl, Nat.le_of_ble_eq_true rfl⟩ rfl rfl rfl rfl rfl (Nat.le_of_ble_eq_true rfl) dX4_readOrder_94 ⟨Nat.le_of_ble_eq_true rfl, Nat.le_of_ble_eq_true rfl⟩ (fun x u H locs hpost hP hD hS => ?_)
    subst hpost
    have hP : va_P E.1 vwCl (wM E q z pa sl sv sp pd (iU od (4 * om) (Lt pd ty st)) pm ty om (wS (q1W pd ty wr st) (q1S wr st)) (dW 0 5 (Lt pd ty (q1S wr st)) (q1W pd ty wr st) (q1S wr st))) H := hP
    have hD : va_D A (wM E q z pa sl sv sp pd (iU od (4 * om) (Lt pd ty st)) pm ty om (wS (q1W pd ty wr st) (q1S wr st)) (dW 0 5 (Lt pd ty (q1S wr st)) (q1W pd ty wr st) (q1S wr st))) := hD
    have hP : va_P E.1 vwCl (wM E q z pa sl sv sp pd (iU od (4 * om) (Lt pd ty st)) pm ty om (q2S pd ty wr st) (q2W pd ty wr st)) H := hP
    have hD : va_D A (wM E q z pa sl sv sp pd (iU od (4 * om) (Lt pd ty st)) pm ty om (q2S pd ty wr st) (q2W pd ty wr st)) := hD
    refine z_iast (D := E.1) (cl := vwCl) (tys := zT E) (f := (iU od (4 * om) (Lt pd ty st))) hx hb hK hP hD hS 7 0 rfl rfl (by omega) (by omega) (by omega) dX4_readOrder_97 (fun H locs hP hD hS => ?_)
    have hP : va_P E.1 vwCl (wM E q z pa sl sv sp pd (iU (iU od (4 * om) (Lt pd ty st)) ((4 * om) + 1) (Lt pd ty (q1S wr st) - 48)) pm ty om (q2S pd ty wr st) (q2W pd ty wr st)) H := hP
    have hD : va_D A (wM E q z pa sl sv sp pd (iU (iU od (4 * om) (Lt pd ty st)) ((4 * om) + 1) (Lt pd ty (q1S wr st) - 48)) pm ty om (q2S pd ty wr st) (q2W pd ty wr st)) := hD
    refine lv_aload_n hx hb dX4_readOrder_98 rfl (lv_at hl 3 rfl) ?_
    refine va_get (D := E.1) (cl := vwCl) (ci := 4) (v := .ref (q 7)) (C := RX4) (T := TX4) (N := 12) hx hb hts hinX4 hown hK hP 0 rfl rfl 8 (by decide) hf_30 (fun _ h => h) rfl dX4_readOrder_99 ?_
    refine lv_iload_n hx hb dX4_readOrder_102 rfl (lv_at hl 2 rfl) ?_
    refine lv_iconst (v := iI 2) hx hb dX4_readOrder_103 (by decide) ?_
    refine z_iadd hx hb dX4_readOrder_104 ?_
    refine lv_aload_n hx hb dX4_readOrder_105 rfl (lv_at hl 3 rfl) ?_
    refine z_callV0 (ci := 4) (qk := 0) (As := []) (rest := [.int (iI ((4 * om) + 2)), .ref (q 7)]) hx hb hml hown hts hK hA hl.1 hP hD hS (c_X4_name l E q z pa sl sv sp pd (iU (iU od (4 * om) (Lt pd ty st)) ((4 * om) + 1) (Lt pd ty (q1S wr st) - 48)) pm ty om (q2S pd ty wr st) (q2W pd ty wr st)   (by first | omega | exact hpd | exact ⟨by omega, by omega⟩ | exact zb_01) (by first | omega | exact hpd | exact ⟨by omega, by omega⟩ | exact zb_01) (by first | omega | exact hpd | exact ⟨by omega, by omega⟩ | exact zb_01) (by first | omega | exact hpd | exact ⟨by omega, by omega⟩ | exact zb_01)) gX4_readOrder_X4_name rfl ndX4_name ⟨Nat.le_of_ble_eq_true rfl, Nat.le_of_ble_eq_true rfl⟩ rfl rfl rfl rfl rfl (Nat.le_of_ble_eq_true rfl) dX4_readOrder_106 ⟨Nat.le_of_ble_eq_true rfl, Nat.le_of_ble_eq_true rfl⟩ (fun x u H locs hpost hP hD hS => ?_)
    subst hpost
    have hP : va_P E.1 vwCl (wM E q z pa sl sv sp pd (iU (iU od (4 * om) (Lt pd ty st)) ((4 * om) + 1) (Lt pd ty (q1S wr st) - 48)) pm ty om (naS pd ty (q2W pd ty wr st) (q2S pd ty wr st)) (naW pd ty (q2W pd ty wr st) (q2S pd ty wr st))) H := hP
    have hD : va_D A (wM E q z pa sl sv sp pd (iU (iU od (4 * om) (Lt pd ty st)) ((4 * om) + 1) (Lt pd ty (q1S wr st) - 48)) pm ty om (naS pd ty (q2W pd ty wr st) (q2S pd ty wr st)) (naW pd ty (q2W pd ty wr st) (q2S pd ty wr st))) := hD
    have hP : va_P E.1 vwCl (wM E q z pa sl sv sp pd (iU (iU od (4 * om) (Lt pd ty st)) ((4 * om) + 1) (Lt pd ty (q1S wr st) - 48)) pm ty om (q3S pd ty wr st) (q3W pd ty wr st)) H := hP
    have hD : va_D A (wM E q z pa sl sv sp pd (iU (iU od (4 * om) (Lt pd ty st)) ((4 * om) + 1) (Lt pd ty (q1S wr st) - 48)) pm ty om (q3S pd ty wr st) (q3W pd ty wr st)) := hD
    refine z_iast (D := E.1) (cl := vwCl) (tys := zT E) (f := (iU (iU od (4 * om) (Lt pd ty st)) ((4 * om) + 1) (Lt pd ty (q1S wr st) - 48))) hx hb hK hP hD hS 7 0 rfl rfl (by omega) (by omega) (by omega) dX4_readOrder_109 (fun H locs hP hD hS => ?_)
    have hP : va_P E.1 vwCl (wM E q z pa sl sv sp pd (iU (iU (iU od (4 * om) (Lt pd ty st)) ((4 * om) + 1) (Lt pd ty (q1S wr st) - 48)) ((4 * om) + 2) (naV pd ty (q2W pd ty wr st) (q2S pd ty wr st))) pm ty om (q3S pd ty wr st) (q3W pd ty wr st)) H := hP
    have hD : va_D A (wM E q z pa sl sv sp pd (iU (iU (iU od (4 * om) (Lt pd ty st)) ((4 * om) + 1) (Lt pd ty (q1S wr st) - 48)) ((4 * om) + 2) (naV pd ty (q2W pd ty wr st) (q2S pd ty wr st))) pm ty om (q3S pd ty wr st) (q3W pd ty wr st)) := hD
    refine lv_iload_n hx hb dX4_readOrder_110 rfl (lv_at hl 1 rfl) ?_
    refine lv_bipush (v := iI 119) hx hb dX4_readOrder_111 (by decide) ?_
    refine z_icmp_ne (tgt := 146) hx hb dX4_readOrder_113 (by decide) ⟨by first | omega | exact (hz _ _ (by omega)).1 | exact (hz _ _ (by omega)).2, by first | omega | exact (hz _ _ (by omega)).1 | exact (hz _ _ (by omega)).2⟩ ⟨by first | omega | exact (hz _ _ (by omega)).1 | exact (hz _ _ (by omega)).2, by first | omega | exact (hz _ _ (by omega)).1 | exact (hz _ _ (by omega)).2⟩ (fun c_113 => absurd c_113 (by omega)) (fun c_113 => ?_)
    refine lv_aload_n hx hb dX4_readOrder_116 rfl (lv_at hl 3 rfl) ?_
    refine lv_aload_n hx hb dX4_readOrder_117 rfl (lv_at hl 3 rfl) ?_
    refine z_callV0 (ci := 4) (qk := 0) (As := []) (rest := [.ref (q 0)]) hx hb hml hown hts hK hA hl.1 hP hD hS (c_X4_letter l E q z pa sl sv sp pd (iU (iU (iU od (4 * om) (Lt pd ty st)) ((4 * om) + 1) (Lt pd ty (q1S wr st) - 48)) ((4 * om) + 2) (naV pd ty (q2W pd ty wr st) (q2S pd ty wr st))) pm ty om (q3S pd ty wr st) (q3W pd ty wr st)   (by first | omega | exact hpd | exact ⟨by omega, by omega⟩ | exact zb_01) (by first | omega | exact hpd | exact ⟨by omega, by omega⟩ | exact zb_01) (by first | omega | exact hpd | exact ⟨by omega, by omega⟩ | exact zb_01)) gX4_readOrder_X4_letter rfl ndX4_letter ⟨Nat.le_of_ble_eq_true rfl, Nat.le_of_ble_eq_true rfl⟩ rfl rfl rfl rfl rfl (Nat.le_of_ble_eq_true rfl) dX4_readOrder_118 ⟨Nat.le_of_ble_eq_true rfl, Nat.le_of_ble_eq_true rfl⟩ (fun x u H locs hpost hP hD hS => ?_)
    subst hpost
    have hP : va_P E.1 vwCl (wM E q z pa sl sv sp pd (iU (iU (iU od (4 * om) (Lt pd ty st)) ((4 * om) + 1) (Lt pd ty (q1S wr st) - 48)) ((4 * om) + 2) (naV pd ty (q2W pd ty wr st) (q2S pd ty wr st))) pm ty om (q3S pd ty wr st) (q3W pd ty wr st)) H := hP
    have hD : va_D A (wM E q z pa sl sv sp pd (iU (iU (iU od (4 * om) (Lt pd ty st)) ((4 * om) + 1) (Lt pd ty (q1S wr st) - 48)) ((4 * om) + 2) (naV pd ty (q2W pd ty wr st) (q2S pd ty wr st))) pm ty om (q3S pd ty wr st) (q3W pd ty wr st)) := hD
    refine lv_bipush (v := iI 61) hx hb dX4_readOrder_121 (by decide) ?_
    refine z_icmp_ne (tgt := 130) hx hb dX4_readOrder_123 (by decide) ⟨by first | omega | exact (hz _ _ (by omega)).1 | exact (hz _ _ (by omega)).2, by first | omega | exact (hz _ _ (by omega)).1 | exact (hz _ _ (by omega)).2⟩ ⟨by first | omega | exact (hz _ _ (by omega)).1 | exact (hz _ _ (by omega)).2, by first | omega | exact (hz _ _ (by omega)).1 | exact (hz _ _ (by omega)).2⟩ (fun c_123 => ?_) (fun c_123 => ?_)
    · refine lv_iconst (v := iI 0) hx hb dX4_readOrder_130 (by decide) ?_
      refine z_callVv0 (ci := 4) (qk := 0) (As := [.int (iI 0)]) (rest := []) hx hb hml hown hts hK hA hl.1 hP hD hS (c_X4_wants l E q z pa sl sv sp pd (iU (iU (iU od (4 * om) (Lt pd ty st)) ((4 * om) + 1) (Lt pd ty (q1S wr st) - 48)) ((4 * om) + 2) (naV pd ty (q2W pd ty wr st) (q2S pd ty wr st))) pm ty om (q3S pd ty wr st) (q3W pd ty wr st) 0  (by first | omega | exact hpd | exact ⟨by omega, by omega⟩ | exact zb_01) (by first | omega | exact hpd | exact ⟨by omega, by omega⟩ | exact zb_01) (by first | omega | exact hpd | exact ⟨by omega, by omega⟩ | exact zb_01)) gX4_readOrder_X4_wants rfl ndX4_wants ⟨Nat.le_of_ble_eq_true rfl, Nat.le_of_ble_eq_true rfl⟩ rfl rfl rfl rfl rfl (Nat.le_of_ble_eq_true rfl) dX4_readOrder_131 ⟨Nat.le_of_ble_eq_true rfl, Nat.le_of_ble_eq_true rfl⟩ (fun u H locs hpost hP hD hS => ?_)
      have hP : va_P E.1 vwCl (wM E q z pa sl sv sp pd (iU (iU (iU od (4 * om) (Lt pd ty st)) ((4 * om) + 1) (Lt pd ty (q1S wr st) - 48)) ((4 * om) + 2) (naV pd ty (q2W pd ty wr st) (q2S pd ty wr st))) pm ty om (wS (q3W pd ty wr st) (q3S pd ty wr st)) (wW 0 (q3W pd ty wr st) (q3S pd ty wr st))) H := hP
      have hD : va_D A (wM E q z pa sl sv sp pd (iU (iU (iU od (4 * om) (Lt pd ty st)) ((4 * om) + 1) (Lt pd ty (q1S wr st) - 48)) ((4 * om) + 2) (naV pd ty (q2W pd ty wr st) (q2S pd ty wr st))) pm ty om (wS (q3W pd ty wr st) (q3S pd ty wr st)) (wW 0 (q3W pd ty wr st) (q3S pd ty wr st))) := hD
      have hw4 : q4W pd ty wr st = (wW 0 (q3W pd ty wr st) (q3S pd ty wr st)) := by unfold q4W; first | rw [zb_t c_123] | rw [zb_f c_123]
      rw [← hw4] at hP hD
      refine lv_aload_n hx hb dX4_readOrder_134 rfl (lv_at hl 3 rfl) ?_
      refine va_get (D := E.1) (cl := vwCl) (ci := 4) (v := .ref (q 7)) (C := RX4) (T := TX4) (N := 12) hx hb hts hinX4 hown hK hP 0 rfl rfl 8 (by decide) hf_30 (fun _ h => h) rfl dX4_readOrder_135 ?_
      have hP : va_P E.1 vwCl (wM E q z pa sl sv sp pd (iU (iU (iU od (4 * om) (Lt pd ty st)) ((4 * om) + 1) (Lt pd ty (q1S wr st) - 48)) ((4 * om) + 2) (naV pd ty (q2W pd ty wr st) (q2S pd ty wr st))) pm ty om (q4S pd ty wr st) (q4W pd ty wr st)) H := hP
      have hD : va_D A (wM E q z pa sl sv sp pd (iU (iU (iU od (4 * om) (Lt pd ty st)) ((4 * om) + 1) (Lt pd ty (q1S wr st) - 48)) ((4 * om) + 2) (naV pd ty (q2W pd ty wr st) (q2S pd ty wr st))) pm ty om (q4S pd ty wr st) (q4W pd ty wr st)) := hD
      refine lv_iload_n hx hb dX4_readOrder_138 rfl (lv_at hl 2 rfl) ?_
      refine lv_iconst (v := iI 3) hx hb dX4_readOrder_139 (by decide) ?_
      refine z_iadd hx hb dX4_readOrder_140 ?_
      refine lv_aload_n hx hb dX4_readOrder_141 rfl (lv_at hl 3 rfl) ?_
      refine z_callV0 (ci := 4) (qk := 0) (As := []) (rest := [.int (iI ((4 * om) + 3)), .ref (q 7)]) hx hb hml hown hts hK hA hl.1 hP hD hS (c_X4_number l E q z pa sl sv sp pd (iU (iU (iU od (4 * om) (Lt pd ty st)) ((4 * om) + 1) (Lt pd ty (q1S wr st) - 48)) ((4 * om) + 2) (naV pd ty (q2W pd ty wr st) (q2S pd ty wr st))) pm ty om (q4S pd ty wr st) (q4W pd ty wr st)   (by first | omega | exact hpd | exact ⟨by omega, by omega⟩ | exact zb_01) (by first | omega | exact hpd | exact ⟨by omega, by omega⟩ | exact zb_01) (by first | omega | exact hpd | exact ⟨by omega, by omega⟩ | exact zb_01) (by first | omega | exact hpd | exact ⟨by omega, by omega⟩ | exact zb_01)) gX4_readOrder_X4_number rfl ndX4_number ⟨Nat.le_of_ble_eq_true rfl, Nat.le_of_ble_eq_true rfl⟩ rfl rfl rfl rfl rfl (Nat.le_of_ble_eq_true rfl) dX4_readOrder_142 ⟨Nat.le_of_ble_eq_true rfl, Nat.le_of_ble_eq_true rfl⟩ (fun x u H locs hpost hP hD hS => ?_)
      subst hpost
      have hP : va_P E.1 vwCl (wM E q z pa sl sv sp pd (iU (iU (iU od (4 * om) (Lt pd ty st)) ((4 * om) + 1) (Lt pd ty (q1S wr st) - 48)) ((4 * om) + 2) (naV pd ty (q2W pd ty wr st) (q2S pd ty wr st))) pm ty om ((nR pd ty (q4W pd ty wr st) (q4S pd ty wr st)).2) (dW 0 9 (Lt pd ty (q4S pd ty wr st)) (q4W pd ty wr st) (q4S pd ty wr st))) H := hP
      have hD : va_D A (wM E q z pa sl sv sp pd (iU (iU (iU od (4 * om) (Lt pd ty st)) ((4 * om) + 1) (Lt pd ty (q1S wr st) - 48)) ((4 * om) + 2) (naV pd ty (q2W pd ty wr st) (q2S pd ty wr st))) pm ty om ((nR pd ty (q4W pd ty wr st) (q4S pd ty wr st)).2) (dW 0 9 (Lt pd ty (q4S pd ty wr st)) (q4W pd ty wr st) (q4S pd ty wr st))) := hD
      have hP : va_P E.1 vwCl (wM E q z pa sl sv sp pd (iU (iU (iU od (4 * om) (Lt pd ty st)) ((4 * om) + 1) (Lt pd ty (q1S wr st) - 48)) ((4 * om) + 2) (naV pd ty (q2W pd ty wr st) (q2S pd ty wr st))) pm ty om (q5S pd ty wr st) (q5W pd ty wr st)) H := hP
      have hD : va_D A (wM E q z pa sl sv sp pd (iU (iU (iU od (4 * om) (Lt pd ty st)) ((4 * om) + 1) (Lt pd ty (q1S wr st) - 48)) ((4 * om) + 2) (naV pd ty (q2W pd ty wr st) (q2S pd ty wr st))) pm ty om (q5S pd ty wr st) (q5W pd ty wr st)) := hD
      refine z_iast (D := E.1) (cl := vwCl) (tys := zT E) (f := (iU (iU (iU od (4 * om) (Lt pd ty st)) ((4 * om) + 1) (Lt pd ty (q1S wr st) - 48)) ((4 * om) + 2) (naV pd ty (q2W pd ty wr st) (q2S pd ty wr st)))) hx hb hK hP hD hS 7 0 rfl rfl (by omega) (by omega) (by omega) dX4_readOrder_145 (fun H locs hP hD hS => ?_)
      have hP : va_P E.1 vwCl (wM E q z pa sl sv sp pd (iU (iU (iU (iU od (4 * om) (Lt pd ty st)) ((4 * om) + 1) (Lt pd ty (q1S wr st) - 48)) ((4 * om) + 2) (naV pd ty (q2W pd ty wr st) (q2S pd ty wr st))) ((4 * om) + 3) ((nR pd ty (q4W pd ty wr st) (q4S pd ty wr st)).1)) pm ty om (q5S pd ty wr st) (q5W pd ty wr st)) H := hP
      have hD : va_D A (wM E q z pa sl sv sp pd (iU (iU (iU (iU od (4 * om) (Lt pd ty st)) ((4 * om) + 1) (Lt pd ty (q1S wr st) - 48)) ((4 * om) + 2) (naV pd ty (q2W pd ty wr st) (q2S pd ty wr st))) ((4 * om) + 3) ((nR pd ty (q4W pd ty wr st) (q4S pd ty wr st)).1)) pm ty om (q5S pd ty wr st) (q5W pd ty wr st)) := hD
      refine lv_aload_n hx hb dX4_readOrder_146 rfl (lv_at hl 3 rfl) ?_
      refine lv_dup hx hb dX4_readOrder_147 rfl ?_
      refine va_get (D := E.1) (cl := vwCl) (ci := 4) (v := .int (iI om)) (C := RX4) (T := TX4) (N := 12) hx hb hts hinX4 hown hK hP 0 rfl rfl 9 (by decide) hf_181 (fun _ h => h) rfl dX4_readOrder_148 ?_
      refine lv_iconst (v := iI 1) hx hb dX4_readOrder_151 (by decide) ?_
      refine z_iadd hx hb dX4_readOrder_152 ?_
      refine va_put (D := E.1) (cl := vwCl) (ci := 4) (v := .int (iI (om + 1))) (ty := .int) (C := RX4) (T := TX4) (N := 12) hx hb hts hinX4 tyX4 tyX4_ok nmX4 hown hK hP hD hS 0 rfl rfl 9 (by decide) hf_181 (fun _ h => h) rfl (by decide +kernel) (rfl) (rfl) (Nat.le_of_ble_eq_true rfl) dX4_readOrder_153 (fun H locs hP hD hS => ?_)
      have hP : va_P E.1 vwCl (wM E q z pa sl sv sp pd (iU (iU (iU (iU od (4 * om) (Lt pd ty st)) ((4 * om) + 1) (Lt pd ty (q1S wr st) - 48)) ((4 * om) + 2) (naV pd ty (q2W pd ty wr st) (q2S pd ty wr st))) ((4 * om) + 3) ((nR pd ty (q4W pd ty wr st) (q4S pd ty wr st)).1)) pm ty (om + 1) (q5S pd ty wr st) (q5W pd ty wr st)) H := hP
      have hD : va_D A (wM E q z pa sl sv sp pd (iU (iU (iU (iU od (4 * om) (Lt pd ty st)) ((4 * om) + 1) (Lt pd ty (q1S wr st) - 48)) ((4 * om) + 2) (naV pd ty (q2W pd ty wr st) (q2S pd ty wr st))) ((4 * om) + 3) ((nR pd ty (q4W pd ty wr st) (q4S pd ty wr st)).1)) pm ty (om + 1) (q5S pd ty wr st) (q5W pd ty wr st)) := hD
      have eqc_od : (roD pd ty wr st od om) = (iU (iU (iU (iU od (4 * om) (Lt pd ty st)) ((4 * om) + 1) (Lt pd ty (q1S wr st) - 48)) ((4 * om) + 2) (naV pd ty (q2W pd ty wr st) (q2S pd ty wr st))) ((4 * om) + 3) ((nR pd ty (q4W pd ty wr st) (q4S pd ty wr st)).1)) := by first | (exfalso; omega) | (unfold roD roD3; (repeat (first | with_reducible rfl | rw [if_pos (by omega)] | rw [if_neg (by omega)])))
      have eqc_st : (roS pd ty wr st) = q5S pd ty wr st := by first | (exfalso; omega) | (unfold roS q1S; (repeat (first | with_reducible rfl | rw [if_pos (by omega)] | rw [if_neg (by omega)])))
      have eqc_wr : (roW pd ty wr st) = q5W pd ty wr st := by first | (exfalso; omega) | (unfold roW; (repeat (first | with_reducible rfl | rw [if_pos (by omega)] | rw [if_neg (by omega)])))
      have hP : va_P E.1 vwCl (wM E q z pa sl sv sp pd (roD pd ty wr st od om) pm ty (om + 1) (roS pd ty wr st) (roW pd ty wr st)) H := by rw [eqc_od, eqc_st, eqc_wr]; exact hP
      have hD : va_D A (wM E q z pa sl sv sp pd (roD pd ty wr st od om) pm ty (om + 1) (roS pd ty wr st) (roW pd ty wr st)) := by rw [eqc_od, eqc_st, eqc_wr]; exact hD
      exact z_vret hx hb hr hlocks hK hS () (by first | rfl | trivial | exact zb_t' (by omega) | exact zb_f' (by omega) | omega) hP hD dX4_readOrder_156
    · refine lv_iconst (v := iI 1) hx hb dX4_readOrder_126 (by decide) ?_
      refine lv_goto (tgt := 131) hx hb dX4_readOrder_127 (by decide) ?_
      refine z_callVv0 (ci := 4) (qk := 0) (As := [.int (iI 1)]) (rest := []) hx hb hml hown hts hK hA hl.1 hP hD hS (c_X4_wants l E q z pa sl sv sp pd (iU (iU (iU od (4 * om) (Lt pd ty st)) ((4 * om) + 1) (Lt pd ty (q1S wr st) - 48)) ((4 * om) + 2) (naV pd ty (q2W pd ty wr st) (q2S pd ty wr st))) pm ty om (q3S pd ty wr st) (q3W pd ty wr st) 1  (by first | omega | exact hpd | exact ⟨by omega, by omega⟩ | exact zb_01) (by first | omega | exact hpd | exact ⟨by omega, by omega⟩ | exact zb_01) (by first | omega | exact hpd | exact ⟨by omega, by omega⟩ | exact zb_01)) gX4_readOrder_X4_wants rfl ndX4_wants ⟨Nat.le_of_ble_eq_true rfl, Nat.le_of_ble_eq_true rfl⟩ rfl rfl rfl rfl rfl (Nat.le_of_ble_eq_true rfl) dX4_readOrder_131 ⟨Nat.le_of_ble_eq_true rfl, Nat.le_of_ble_eq_true rfl⟩ (fun u H locs hpost hP hD hS => ?_)
      have hP : va_P E.1 vwCl (wM E q z pa sl sv sp pd (iU (iU (iU od (4 * om) (Lt pd ty st)) ((4 * om) + 1) (Lt pd ty (q1S wr st) - 48)) ((4 * om) + 2) (naV pd ty (q2W pd ty wr st) (q2S pd ty wr st))) pm ty om (wS (q3W pd ty wr st) (q3S pd ty wr st)) (wW 1 (q3W pd ty wr st) (q3S pd ty wr st))) H := hP
      have hD : va_D A (wM E q z pa sl sv sp pd (iU (iU (iU od (4 * om) (Lt pd ty st)) ((4 * om) + 1) (Lt pd ty (q1S wr st) - 48)) ((4 * om) + 2) (naV pd ty (q2W pd ty wr st) (q2S pd ty wr st))) pm ty om (wS (q3W pd ty wr st) (q3S pd ty wr st)) (wW 1 (q3W pd ty wr st) (q3S pd ty wr st))) := hD
      have hw4 : q4W pd ty wr st = (wW 1 (q3W pd ty wr st) (q3S pd ty wr st)) := by unfold q4W; first | rw [zb_t c_123] | rw [zb_f c_123]
      rw [← hw4] at hP hD
      refine lv_aload_n hx hb dX4_readOrder_134 rfl (lv_at hl 3 rfl) ?_
      refine va_get (D := E.1) (cl := vwCl) (ci := 4) (v := .ref (q 7)) (C := RX4) (T := TX4) (N := 12) hx hb hts hinX4 hown hK hP 0 rfl rfl 8 (by decide) hf_30 (fun _ h => h) rfl dX4_readOrder_135 ?_
      have hP : va_P E.1 vwCl (wM E q z pa sl sv sp pd (iU (iU (iU od (4 * om) (Lt pd ty st)) ((4 * om) + 1) (Lt pd ty (q1S wr st) - 48)) ((4 * om) + 2) (naV pd ty (q2W pd ty wr st) (q2S pd ty wr st))) pm ty om (q4S pd ty wr st) (q4W pd ty wr st)) H := hP
      have hD : va_D A (wM E q z pa sl sv sp pd (iU (iU (iU od (4 * om) (Lt pd ty st)) ((4 * om) + 1) (Lt pd ty (q1S wr st) - 48)) ((4 * om) + 2) (naV pd ty (q2W pd ty wr st) (q2S pd ty wr st))) pm ty om (q4S pd ty wr st) (q4W pd ty wr st)) := hD
      refine lv_iload_n hx hb dX4_readOrder_138 rfl (lv_at hl 2 rfl) ?_
      refine lv_iconst (v := iI 3) hx hb dX4_readOrder_139 (by decide) ?_
      refine z_iadd hx hb dX4_readOrder_140 ?_
      refine lv_aload_n hx hb dX4_readOrder_141 rfl (lv_at hl 3 rfl) ?_
      refine z_callV0 (ci := 4) (qk := 0) (As := []) (rest := [.int (iI ((4 * om) + 3)), .ref (q 7)]) hx hb hml hown hts hK hA hl.1 hP hD hS (c_X4_number l E q z pa sl sv sp pd (iU (iU (iU od (4 * om) (Lt pd ty st)) ((4 * om) + 1) (Lt pd ty (q1S wr st) - 48)) ((4 * om) + 2) (naV pd ty (q2W pd ty wr st) (q2S pd ty wr st))) pm ty om (q4S pd ty wr st) (q4W pd ty wr st)   (by first | omega | exact hpd | exact ⟨by omega, by omega⟩ | exact zb_01) (by first | omega | exact hpd | exact ⟨by omega, by omega⟩ | exact zb_01) (by first | omega | exact hpd | exact ⟨by omega, by omega⟩ | exact zb_01) (by first | omega | exact hpd | exact ⟨by omega, by omega⟩ | exact zb_01)) gX4_readOrder_X4_number rfl ndX4_number ⟨Nat.le_of_ble_eq_true rfl, Nat.le_of_ble_eq_true rfl⟩ rfl rfl rfl rfl rfl (Nat.le_of_ble_eq_true rfl) dX4_readOrder_142 ⟨Nat.le_of_ble_eq_true rfl, Nat.le_of_ble_eq_true rfl⟩ (fun x u H locs hpost hP hD hS => ?_)
      subst hpost
      have hP : va_P E.1 vwCl (wM E q z pa sl sv sp pd (iU (iU (iU od (4 * om) (Lt pd ty st)) ((4 * om) + 1) (Lt pd ty (q1S wr st) - 48)) ((4 * om) + 2) (naV pd ty (q2W pd ty wr st) (q2S pd ty wr st))) pm ty om ((nR pd ty (q4W pd ty wr st) (q4S pd ty wr st)).2) (dW 0 9 (Lt pd ty (q4S pd ty wr st)) (q4W pd ty wr st) (q4S pd ty wr st))) H := hP
      have hD : va_D A (wM E q z pa sl sv sp pd (iU (iU (iU od (4 * om) (Lt pd ty st)) ((4 * om) + 1) (Lt pd ty (q1S wr st) - 48)) ((4 * om) + 2) (naV pd ty (q2W pd ty wr st) (q2S pd ty wr st))) pm ty om ((nR pd ty (q4W pd ty wr st) (q4S pd ty wr st)).2) (dW 0 9 (Lt pd ty (q4S pd ty wr st)) (q4W pd ty wr st) (q4S pd ty wr st))) := hD
      have hP : va_P E.1 vwCl (wM E q z pa sl sv sp pd (iU (iU (iU od (4 * om) (Lt pd ty st)) ((4 * om) + 1) (Lt pd ty (q1S wr st) - 48)) ((4 * om) + 2) (naV pd ty (q2W pd ty wr st) (q2S pd ty wr st))) pm ty om (q5S pd ty wr st) (q5W pd ty wr st)) H := hP
      have hD : va_D A (wM E q z pa sl sv sp pd (iU (iU (iU od (4 * om) (Lt pd ty st)) ((4 * om) + 1) (Lt pd ty (q1S wr st) - 48)) ((4 * om) + 2) (naV pd ty (q2W pd ty wr st) (q2S pd ty wr st))) pm ty om (q5S pd ty wr st) (q5W pd ty wr st)) := hD
      refine z_iast (D := E.1) (cl := vwCl) (tys := zT E) (f := (iU (iU (iU od (4 * om) (Lt pd ty st)) ((4 * om) + 1) (Lt pd ty (q1S wr st) - 48)) ((4 * om) + 2) (naV pd ty (q2W pd ty wr st) (q2S pd ty wr st)))) hx hb hK hP hD hS 7 0 rfl rfl (by omega) (by omega) (by omega) dX4_readOrder_145 (fun H locs hP hD hS => ?_)
      have hP : va_P E.1 vwCl (wM E q z pa sl sv sp pd (iU (iU (iU (iU od (4 * om) (Lt pd ty st)) ((4 * om) + 1) (Lt pd ty (q1S wr st) - 48)) ((4 * om) + 2) (naV pd ty (q2W pd ty wr st) (q2S pd ty wr st))) ((4 * om) + 3) ((nR pd ty (q4W pd ty wr st) (q4S pd ty wr st)).1)) pm ty om (q5S pd ty wr st) (q5W pd ty wr st)) H := hP
      have hD : va_D A (wM E q z pa sl sv sp pd (iU (iU (iU (iU od (4 * om) (Lt pd ty st)) ((4 * om) + 1) (Lt pd ty (q1S wr st) - 48)) ((4 * om) + 2) (naV pd ty (q2W pd ty wr st) (q2S pd ty wr st))) ((4 * om) + 3) ((nR pd ty (q4W pd ty wr st) (q4S pd ty wr st)).1)) pm ty om (q5S pd ty wr st) (q5W pd ty wr st)) := hD
      refine lv_aload_n hx hb dX4_readOrder_146 rfl (lv_at hl 3 rfl) ?_
      refine lv_dup hx hb dX4_readOrder_147 rfl ?_
      refine va_get (D := E.1) (cl := vwCl) (ci := 4) (v := .int (iI om)) (C := RX4) (T := TX4) (N := 12) hx hb hts hinX4 hown hK hP 0 rfl rfl 9 (by decide) hf_181 (fun _ h => h) rfl dX4_readOrder_148 ?_
      refine lv_iconst (v := iI 1) hx hb dX4_readOrder_151 (by decide) ?_
      refine z_iadd hx hb dX4_readOrder_152 ?_
      refine va_put (D := E.1) (cl := vwCl) (ci := 4) (v := .int (iI (om + 1))) (ty := .int) (C := RX4) (T := TX4) (N := 12) hx hb hts hinX4 tyX4 tyX4_ok nmX4 hown hK hP hD hS 0 rfl rfl 9 (by decide) hf_181 (fun _ h => h) rfl (by decide +kernel) (rfl) (rfl) (Nat.le_of_ble_eq_true rfl) dX4_readOrder_153 (fun H locs hP hD hS => ?_)
      have hP : va_P E.1 vwCl (wM E q z pa sl sv sp pd (iU (iU (iU (iU od (4 * om) (Lt pd ty st)) ((4 * om) + 1) (Lt pd ty (q1S wr st) - 48)) ((4 * om) + 2) (naV pd ty (q2W pd ty wr st) (q2S pd ty wr st))) ((4 * om) + 3) ((nR pd ty (q4W pd ty wr st) (q4S pd ty wr st)).1)) pm ty (om + 1) (q5S pd ty wr st) (q5W pd ty wr st)) H := hP
      have hD : va_D A (wM E q z pa sl sv sp pd (iU (iU (iU (iU od (4 * om) (Lt pd ty st)) ((4 * om) + 1) (Lt pd ty (q1S wr st) - 48)) ((4 * om) + 2) (naV pd ty (q2W pd ty wr st) (q2S pd ty wr st))) ((4 * om) + 3) ((nR pd ty (q4W pd ty wr st) (q4S pd ty wr st)).1)) pm ty (om + 1) (q5S pd ty wr st) (q5W pd ty wr st)) := hD
      have eqc_od : (roD pd ty wr st od om) = (iU (iU (iU (iU od (4 * om) (Lt pd ty st)) ((4 * om) + 1) (Lt pd ty (q1S wr st) - 48)) ((4 * om) + 2) (naV pd ty (q2W pd ty wr st) (q2S pd ty wr st))) ((4 * om) + 3) ((nR pd ty (q4W pd ty wr st) (q4S pd ty wr st)).1)) := by first | (exfalso; omega) | (unfold roD roD3; (repeat (first | with_reducible rfl | rw [if_pos (by omega)] | rw [if_neg (by omega)])))
      have eqc_st : (roS pd ty wr st) = q5S pd ty wr st := by first | (exfalso; omega) | (unfold roS q1S; (repeat (first | with_reducible rfl | rw [if_pos (by omega)] | rw [if_neg (by omega)])))
      have eqc_wr : (roW pd ty wr st) = q5W pd ty wr st := by first | (exfalso; omega) | (unfold roW; (repeat (first | with_reducible rfl | rw [if_pos (by omega)] | rw [if_neg (by omega)])))
      have hP : va_P E.1 vwCl (wM E q z pa sl sv sp pd (roD pd ty wr st od om) pm ty (om + 1) (roS pd ty wr st) (roW pd ty wr st)) H := by rw [eqc_od, eqc_st, eqc_wr]; exact hP
      have hD : va_D A (wM E q z pa sl sv sp pd (roD pd ty wr st od om) pm ty (om + 1) (roS pd ty wr st) (roW pd ty wr st)) := by rw [eqc_od, eqc_st, eqc_wr]; exact hD
      exact z_vret hx hb hr hlocks hK hS () (by first | rfl | trivial | exact zb_t' (by omega) | exact zb_f' (by omega) | omega) hP hD dX4_readOrder_156
  · refine lv_iload_n hx hb dX4_readOrder_25 rfl (lv_at hl 0 rfl) ?_
    refine lv_bipush (v := iI 114) hx hb dX4_readOrder_26 (by decide) ?_
    refine z_icmp_eq (tgt := 37) hx hb dX4_readOrder_28 (by decide) ⟨by first | omega | exact (hz _ _ (by omega)).1 | exact (hz _ _ (by omega)).2, by first | omega | exact (hz _ _ (by omega)).1 | exact (hz _ _ (by omega)).2⟩ ⟨by first | omega | exact (hz _ _ (by omega)).1 | exact (hz _ _ (by omega)).2, by first | omega | exact (hz _ _ (by omega)).1 | exact (hz _ _ (by omega)).2⟩ (fun c_28 => ?_) (fun c_28 => ?_)
    · refine lv_iconst (v := iI 1) hx hb dX4_readOrder_37 (by decide) ?_
      refine lv_goto (tgt := 42) hx hb dX4_readOrder_38 (by decide) ?_
      refine lv_istore_n (lv' := [(3, .int (iI 1)), (2, .int (iI (Lt pd ty st))), (1, .int (iI (4 * om))), (0, .ref (q 0))]) hx hb dX4_readOrder_42 rfl hl (by decide) rfl (fun ls hl => ?_)
      refine lv_aload_n hx hb dX4_readOrder_43 rfl (lv_at hl 3 rfl) ?_
      refine lv_iload_n hx hb dX4_readOrder_44 rfl (lv_at hl 0 rfl) ?_
      refine z_if_ne (tgt := 72) hx hb dX4_readOrder_45 (by decide) ⟨by first | omega | exact (hz _ _ (by omega)).1 | exact (hz _ _ (by omega)).2, by first | omega | exact (hz _ _ (by omega)).1 | exact (hz _ _ (by omega)).2⟩ (fun c_45 => ?_) (fun c_45 => absurd c_45 (by omega))
      refine lv_iconst (v := iI 1) hx hb dX4_readOrder_72 (by decide) ?_
      refine lv_goto (tgt := 77) hx hb dX4_readOrder_73 (by decide) ?_
      refine z_callVv0 (ci := 4) (qk := 0) (As := [.int (iI 1)]) (rest := []) hx hb hml hown hts hK hA hl.1 hP hD hS (c_X4_wants l E q z pa sl sv sp pd (iU od (4 * om) (Lt pd ty st)) pm ty om st wr 1  (by first | omega | exact hpd | exact ⟨by omega, by omega⟩ | exact zb_01) (by first | omega | exact hpd | exact ⟨by omega, by omega⟩ | exact zb_01) (by first | omega | exact hpd | exact ⟨by omega, by omega⟩ | exact zb_01)) gX4_readOrder_X4_wants rfl ndX4_wants ⟨Nat.le_of_ble_eq_true rfl, Nat.le_of_ble_eq_true rfl⟩ rfl rfl rfl rfl rfl (Nat.le_of_ble_eq_true rfl) dX4_readOrder_77 ⟨Nat.le_of_ble_eq_true rfl, Nat.le_of_ble_eq_true rfl⟩ (fun u H locs hpost hP hD hS => ?_)
      have hP : va_P E.1 vwCl (wM E q z pa sl sv sp pd (iU od (4 * om) (Lt pd ty st)) pm ty om (wS wr st) (wW 1 wr st)) H := hP
      have hD : va_D A (wM E q z pa sl sv sp pd (iU od (4 * om) (Lt pd ty st)) pm ty om (wS wr st) (wW 1 wr st)) := hD
      have hw1 : q1W pd ty wr st = (wW 1 wr st) := by unfold q1W; first | rw [zb_t (by omega)] | rw [zb_f (by omega)]
      rw [← hw1] at hP hD
      refine lv_iload_n hx hb dX4_readOrder_80 rfl (lv_at hl 0 rfl) ?_
      refine z_if_eq (tgt := 110) hx hb dX4_readOrder_81 (by decide) ⟨by first | omega | exact (hz _ _ (by omega)).1 | exact (hz _ _ (by omega)).2, by first | omega | exact (hz _ _ (by omega)).1 | exact (hz _ _ (by omega)).2⟩ (fun c_81 => absurd c_81 (by omega)) (fun c_81 => ?_)
      have hP : va_P E.1 vwCl (wM E q z pa sl sv sp pd (iU od (4 * om) (Lt pd ty st)) pm ty om (q1S wr st) (q1W pd ty wr st)) H := hP
      have hD : va_D A (wM E q z pa sl sv sp pd (iU od (4 * om) (Lt pd ty st)) pm ty om (q1S wr st) (q1W pd ty wr st)) := hD
      refine lv_aload_n hx hb dX4_readOrder_84 rfl (lv_at hl 3 rfl) ?_
      refine va_get (D := E.1) (cl := vwCl) (ci := 4) (v := .ref (q 7)) (C := RX4) (T := TX4) (N := 12) hx hb hts hinX4 hown hK hP 0 rfl rfl 8 (by decide) hf_30 (fun _ h => h) rfl dX4_readOrder_85 ?_
      refine lv_iload_n hx hb dX4_readOrder_88 rfl (lv_at hl 2 rfl) ?_
      refine lv_iconst (v := iI 1) hx hb dX4_readOrder_89 (by decide) ?_
      refine z_iadd hx hb dX4_readOrder_90 ?_
      refine lv_aload_n hx hb dX4_readOrder_91 rfl (lv_at hl 3 rfl) ?_
      refine lv_iconst (v := iI 0) hx hb dX4_readOrder_92 (by decide) ?_
      refine lv_iconst (v := iI 5) hx hb dX4_readOrder_93 (by decide) ?_
      refine z_callV0 (ci := 4) (qk := 0) (As := [.int (iI 0), .int (iI 5)]) (rest := [.int (iI ((4 * om) + 1)), .ref (q 7)]) hx hb hml hown hts hK hA hl.1 hP hD hS (c_X4_digit l E q z pa sl sv sp pd (iU od (4 * om) (Lt pd ty st)) pm ty om (q1S wr st) (q1W pd ty wr st) 0 5  (by first | omega | exact hpd | exact ⟨by omega, by omega⟩ | exact zb_01) (by first | omega | exact hpd | exact ⟨by omega, by omega⟩ | exact zb_01) (by first | omega | exact hpd | exact ⟨by omega, by omega⟩ | exact zb_01) (by first | omega | exact hpd | exact ⟨by omega, by omega⟩ | exact zb_01) (by first | omega | exact hpd | exact ⟨by omega, by omega⟩ | exact zb_01) (by first | omega | exact hpd | exact ⟨by omega, by omega⟩ | exact zb_01)) gX4_readOrder_X4_digit rfl ndX4_digit ⟨Nat.le_of_ble_eq_true rfl, Nat.le_of_ble_eq_true rfl⟩ rfl rfl rfl rfl rfl (Nat.le_of_ble_eq_true rfl) dX4_readOrder_94 ⟨Nat.le_of_ble_eq_true rfl, Nat.le_of_ble_eq_true rfl⟩ (fun x u H locs hpost hP hD hS => ?_)
      subst hpost
      have hP : va_P E.1 vwCl (wM E q z pa sl sv sp pd (iU od (4 * om) (Lt pd ty st)) pm ty om (wS (q1W pd ty wr st) (q1S wr st)) (dW 0 5 (Lt pd ty (q1S wr st)) (q1W pd ty wr st) (q1S wr st))) H := hP
      have hD : va_D A (wM E q z pa sl sv sp pd (iU od (4 * om) (Lt pd ty st)) pm ty om (wS (q1W pd ty wr st) (q1S wr st)) (dW 0 5 (Lt pd ty (q1S wr st)) (q1W pd ty wr st) (q1S wr st))) := hD
      have hP : va_P E.1 vwCl (wM E q z pa sl sv sp pd (iU od (4 * om) (Lt pd ty st)) pm ty om (q2S pd ty wr st) (q2W pd ty wr st)) H := hP
      have hD : va_D A (wM E q z pa sl sv sp pd (iU od (4 * om) (Lt pd ty st)) pm ty om (q2S pd ty wr st) (q2W pd ty wr st)) := hD
      refine z_iast (D := E.1) (cl := vwCl) (tys := zT E) (f := (iU od (4 * om) (Lt pd ty st))) hx hb hK hP hD hS 7 0 rfl rfl (by omega) (by omega) (by omega) dX4_readOrder_97 (fun H locs hP hD hS => ?_)
      have hP : va_P E.1 vwCl (wM E q z pa sl sv sp pd (iU (iU od (4 * om) (Lt pd ty st)) ((4 * om) + 1) (Lt pd ty (q1S wr st) - 48)) pm ty om (q2S pd ty wr st) (q2W pd ty wr st)) H := hP
      have hD : va_D A (wM E q z pa sl sv sp pd (iU (iU od (4 * om) (Lt pd ty st)) ((4 * om) + 1) (Lt pd ty (q1S wr st) - 48)) pm ty om (q2S pd ty wr st) (q2W pd ty wr st)) := hD
      refine lv_aload_n hx hb dX4_readOrder_98 rfl (lv_at hl 3 rfl) ?_
      refine va_get (D := E.1) (cl := vwCl) (ci := 4) (v := .ref (q 7)) (C := RX4) (T := TX4) (N := 12) hx hb hts hinX4 hown hK hP 0 rfl rfl 8 (by decide) hf_30 (fun _ h => h) rfl dX4_readOrder_99 ?_
      refine lv_iload_n hx hb dX4_readOrder_102 rfl (lv_at hl 2 rfl) ?_
      refine lv_iconst (v := iI 2) hx hb dX4_readOrder_103 (by decide) ?_
      refine z_iadd hx hb dX4_readOrder_104 ?_
      refine lv_aload_n hx hb dX4_readOrder_105 rfl (lv_at hl 3 rfl) ?_
      refine z_callV0 (ci := 4) (qk := 0) (As := []) (rest := [.int (iI ((4 * om) + 2)), .ref (q 7)]) hx hb hml hown hts hK hA hl.1 hP hD hS (c_X4_name l E q z pa sl sv sp pd (iU (iU od (4 * om) (Lt pd ty st)) ((4 * om) + 1) (Lt pd ty (q1S wr st) - 48)) pm ty om (q2S pd ty wr st) (q2W pd ty wr st)   (by first | omega | exact hpd | exact ⟨by omega, by omega⟩ | exact zb_01) (by first | omega | exact hpd | exact ⟨by omega, by omega⟩ | exact zb_01) (by first | omega | exact hpd | exact ⟨by omega, by omega⟩ | exact zb_01) (by first | omega | exact hpd | exact ⟨by omega, by omega⟩ | exact zb_01)) gX4_readOrder_X4_name rfl ndX4_name ⟨Nat.le_of_ble_eq_true rfl, Nat.le_of_ble_eq_true rfl⟩ rfl rfl rfl rfl rfl (Nat.le_of_ble_eq_true rfl) dX4_readOrder_106 ⟨Nat.le_of_ble_eq_true rfl, Nat.le_of_ble_eq_true rfl⟩ (fun x u H locs hpost hP hD hS => ?_)
      subst hpost
      have hP : va_P E.1 vwCl (wM E q z pa sl sv sp pd (iU (iU od (4 * om) (Lt pd ty st)) ((4 * om) + 1) (Lt pd ty (q1S wr st) - 48)) pm ty om (naS pd ty (q2W pd ty wr st) (q2S pd ty wr st)) (naW pd ty (q2W pd ty wr st) (q2S pd ty wr st))) H := hP
      have hD : va_D A (wM E q z pa sl sv sp pd (iU (iU od (4 * om) (Lt pd ty st)) ((4 * om) + 1) (Lt pd ty (q1S wr st) - 48)) pm ty om (naS pd ty (q2W pd ty wr st) (q2S pd ty wr st)) (naW pd ty (q2W pd ty wr st) (q2S pd ty wr st))) := hD
      have hP : va_P E.1 vwCl (wM E q z pa sl sv sp pd (iU (iU od (4 * om) (Lt pd ty st)) ((4 * om) + 1) (Lt pd ty (q1S wr st) - 48)) pm ty om (q3S pd ty wr st) (q3W pd ty wr st)) H := hP
      have hD : va_D A (wM E q z pa sl sv sp pd (iU (iU od (4 * om) (Lt pd ty st)) ((4 * om) + 1) (Lt pd ty (q1S wr st) - 48)) pm ty om (q3S pd ty wr st) (q3W pd ty wr st)) := hD
      refine z_iast (D := E.1) (cl := vwCl) (tys := zT E) (f := (iU (iU od (4 * om) (Lt pd ty st)) ((4 * om) + 1) (Lt pd ty (q1S wr st) - 48))) hx hb hK hP hD hS 7 0 rfl rfl (by omega) (by omega) (by omega) dX4_readOrder_109 (fun H locs hP hD hS => ?_)
      have hP : va_P E.1 vwCl (wM E q z pa sl sv sp pd (iU (iU (iU od (4 * om) (Lt pd ty st)) ((4 * om) + 1) (Lt pd ty (q1S wr st) - 48)) ((4 * om) + 2) (naV pd ty (q2W pd ty wr st) (q2S pd ty wr st))) pm ty om (q3S pd ty wr st) (q3W pd ty wr st)) H := hP
      have hD : va_D A (wM E q z pa sl sv sp pd (iU (iU (iU od (4 * om) (Lt pd ty st)) ((4 * om) + 1) (Lt pd ty (q1S wr st) - 48)) ((4 * om) + 2) (naV pd ty (q2W pd ty wr st) (q2S pd ty wr st))) pm ty om (q3S pd ty wr st) (q3W pd ty wr st)) := hD
      refine lv_iload_n hx hb dX4_readOrder_110 rfl (lv_at hl 1 rfl) ?_
      refine lv_bipush (v := iI 119) hx hb dX4_readOrder_111 (by decide) ?_
      refine z_icmp_ne (tgt := 146) hx hb dX4_readOrder_113 (by decide) ⟨by first | omega | exact (hz _ _ (by omega)).1 | exact (hz _ _ (by omega)).2, by first | omega | exact (hz _ _ (by omega)).1 | exact (hz _ _ (by omega)).2⟩ ⟨by first | omega | exact (hz _ _ (by omega)).1 | exact (hz _ _ (by omega)).2, by first | omega | exact (hz _ _ (by omega)).1 | exact (hz _ _ (by omega)).2⟩ (fun c_113 => ?_) (fun c_113 => absurd c_113 (by omega))
      refine lv_aload_n hx hb dX4_readOrder_146 rfl (lv_at hl 3 rfl) ?_
      refine lv_dup hx hb dX4_readOrder_147 rfl ?_
      refine va_get (D := E.1) (cl := vwCl) (ci := 4) (v := .int (iI om)) (C := RX4) (T := TX4) (N := 12) hx hb hts hinX4 hown hK hP 0 rfl rfl 9 (by decide) hf_181 (fun _ h => h) rfl dX4_readOrder_148 ?_
      refine lv_iconst (v := iI 1) hx hb dX4_readOrder_151 (by decide) ?_
      refine z_iadd hx hb dX4_readOrder_152 ?_
      refine va_put (D := E.1) (cl := vwCl) (ci := 4) (v := .int (iI (om + 1))) (ty := .int) (C := RX4) (T := TX4) (N := 12) hx hb hts hinX4 tyX4 tyX4_ok nmX4 hown hK hP hD hS 0 rfl rfl 9 (by decide) hf_181 (fun _ h => h) rfl (by decide +kernel) (rfl) (rfl) (Nat.le_of_ble_eq_true rfl) dX4_readOrder_153 (fun H locs hP hD hS => ?_)
      have hP : va_P E.1 vwCl (wM E q z pa sl sv sp pd (iU (iU (iU od (4 * om) (Lt pd ty st)) ((4 * om) + 1) (Lt pd ty (q1S wr st) - 48)) ((4 * om) + 2) (naV pd ty (q2W pd ty wr st) (q2S pd ty wr st))) pm ty (om + 1) (q3S pd ty wr st) (q3W pd ty wr st)) H := hP
      have hD : va_D A (wM E q z pa sl sv sp pd (iU (iU (iU od (4 * om) (Lt pd ty st)) ((4 * om) + 1) (Lt pd ty (q1S wr st) - 48)) ((4 * om) + 2) (naV pd ty (q2W pd ty wr st) (q2S pd ty wr st))) pm ty (om + 1) (q3S pd ty wr st) (q3W pd ty wr st)) := hD
      have eqc_od : (roD pd ty wr st od om) = (iU (iU (iU od (4 * om) (Lt pd ty st)) ((4 * om) + 1) (Lt pd ty (q1S wr st) - 48)) ((4 * om) + 2) (naV pd ty (q2W pd ty wr st) (q2S pd ty wr st))) := by first | (exfalso; omega) | (unfold roD roD3; (repeat (first | with_reducible rfl | rw [if_pos (by omega)] | rw [if_neg (by omega)])))
      have eqc_st : (roS pd ty wr st) = q3S pd ty wr st := by first | (exfalso; omega) | (unfold roS q1S; (repeat (first | with_reducible rfl | rw [if_pos (by omega)] | rw [if_neg (by omega)])))
      have eqc_wr : (roW pd ty wr st) = q3W pd ty wr st := by first | (exfalso; omega) | (unfold roW; (repeat (first | with_reducible rfl | rw [if_pos (by omega)] | rw [if_neg (by omega)])))
      have hP : va_P E.1 vwCl (wM E q z pa sl sv sp pd (roD pd ty wr st od om) pm ty (om + 1) (roS pd ty wr st) (roW pd ty wr st)) H := by rw [eqc_od, eqc_st, eqc_wr]; exact hP
      have hD : va_D A (wM E q z pa sl sv sp pd (roD pd ty wr st od om) pm ty (om + 1) (roS pd ty wr st) (roW pd ty wr st)) := by rw [eqc_od, eqc_st, eqc_wr]; exact hD
      exact z_vret hx hb hr hlocks hK hS () (by first | rfl | trivial | exact zb_t' (by omega) | exact zb_f' (by omega) | omega) hP hD dX4_readOrder_156
    · refine lv_iload_n hx hb dX4_readOrder_31 rfl (lv_at hl 0 rfl) ?_
      refine lv_bipush (v := iI 100) hx hb dX4_readOrder_32 (by decide) ?_
      refine z_icmp_ne (tgt := 41) hx hb dX4_readOrder_34 (by decide) ⟨by first | omega | exact (hz _ _ (by omega)).1 | exact (hz _ _ (by omega)).2, by first | omega | exact (hz _ _ (by omega)).1 | exact (hz _ _ (by omega)).2⟩ ⟨by first | omega | exact (hz _ _ (by omega)).1 | exact (hz _ _ (by omega)).2, by first | omega | exact (hz _ _ (by omega)).1 | exact (hz _ _ (by omega)).2⟩ (fun c_34 => ?_) (fun c_34 => ?_)
      · refine lv_iconst (v := iI 0) hx hb dX4_readOrder_41 (by decide) ?_
        refine lv_istore_n (lv' := [(3, .int (iI 0)), (2, .int (iI (Lt pd ty st))), (1, .int (iI (4 * om))), (0, .ref (q 0))]) hx hb dX4_readOrder_42 rfl hl (by decide) rfl (fun ls hl => ?_)
        refine lv_aload_n hx hb dX4_readOrder_43 rfl (lv_at hl 3 rfl) ?_
        refine lv_iload_n hx hb dX4_readOrder_44 rfl (lv_at hl 0 rfl) ?_
        refine z_if_ne (tgt := 72) hx hb dX4_readOrder_45 (by decide) ⟨by first | omega | exact (hz _ _ (by omega)).1 | exact (hz _ _ (by omega)).2, by first | omega | exact (hz _ _ (by omega)).1 | exact (hz _ _ (by omega)).2⟩ (fun c_45 => absurd c_45 (by omega)) (fun c_45 => ?_)
        refine lv_iload_n hx hb dX4_readOrder_48 rfl (lv_at hl 1 rfl) ?_
        refine lv_bipush (v := iI 106) hx hb dX4_readOrder_49 (by decide) ?_
        refine z_icmp_eq (tgt := 72) hx hb dX4_readOrder_51 (by decide) ⟨by first | omega | exact (hz _ _ (by omega)).1 | exact (hz _ _ (by omega)).2, by first | omega | exact (hz _ _ (by omega)).1 | exact (hz _ _ (by omega)).2⟩ ⟨by first | omega | exact (hz _ _ (by omega)).1 | exact (hz _ _ (by omega)).2, by first | omega | exact (hz _ _ (by omega)).1 | exact (hz _ _ (by omega)).2⟩ (fun c_51 => ?_) (fun c_51 => ?_)
        · refine lv_iconst (v := iI 1) hx hb dX4_readOrder_72 (by decide) ?_
          refine lv_goto (tgt := 77) hx hb dX4_readOrder_73 (by decide) ?_
          refine z_callVv0 (ci := 4) (qk := 0) (As := [.int (iI 1)]) (rest := []) hx hb hml hown hts hK hA hl.1 hP hD hS (c_X4_wants l E q z pa sl sv sp pd (iU od (4 * om) (Lt pd ty st)) pm ty om st wr 1  (by first | omega | exact hpd | exact ⟨by omega, by omega⟩ | exact zb_01) (by first | omega | exact hpd | exact ⟨by omega, by omega⟩ | exact zb_01) (by first | omega | exact hpd | exact ⟨by omega, by omega⟩ | exact zb_01)) gX4_readOrder_X4_wants rfl ndX4_wants ⟨Nat.le_of_ble_eq_true rfl, Nat.le_of_ble_eq_true rfl⟩ rfl rfl rfl rfl rfl (Nat.le_of_ble_eq_true rfl) dX4_readOrder_77 ⟨Nat.le_of_ble_eq_true rfl, Nat.le_of_ble_eq_true rfl⟩ (fun u H locs hpost hP hD hS => ?_)
          have hP : va_P E.1 vwCl (wM E q z pa sl sv sp pd (iU od (4 * om) (Lt pd ty st)) pm ty om (wS wr st) (wW 1 wr st)) H := hP
          have hD : va_D A (wM E q z pa sl sv sp pd (iU od (4 * om) (Lt pd ty st)) pm ty om (wS wr st) (wW 1 wr st)) := hD
          have hw1 : q1W pd ty wr st = (wW 1 wr st) := by unfold q1W; first | rw [zb_t (by omega)] | rw [zb_f (by omega)]
          rw [← hw1] at hP hD
          refine lv_iload_n hx hb dX4_readOrder_80 rfl (lv_at hl 0 rfl) ?_
          refine z_if_eq (tgt := 110) hx hb dX4_readOrder_81 (by decide) ⟨by first | omega | exact (hz _ _ (by omega)).1 | exact (hz _ _ (by omega)).2, by first | omega | exact (hz _ _ (by omega)).1 | exact (hz _ _ (by omega)).2⟩ (fun c_81 => ?_) (fun c_81 => absurd c_81 (by omega))
          refine lv_iload_n hx hb dX4_readOrder_110 rfl (lv_at hl 1 rfl) ?_
          refine lv_bipush (v := iI 119) hx hb dX4_readOrder_111 (by decide) ?_
          refine z_icmp_ne (tgt := 146) hx hb dX4_readOrder_113 (by decide) ⟨by first | omega | exact (hz _ _ (by omega)).1 | exact (hz _ _ (by omega)).2, by first | omega | exact (hz _ _ (by omega)).1 | exact (hz _ _ (by omega)).2⟩ ⟨by first | omega | exact (hz _ _ (by omega)).1 | exact (hz _ _ (by omega)).2, by first | omega | exact (hz _ _ (by omega)).1 | exact (hz _ _ (by omega)).2⟩ (fun c_113 => ?_) (fun c_113 => absurd c_113 (by omega))
          refine lv_aload_n hx hb dX4_readOrder_146 rfl (lv_at hl 3 rfl) ?_
          refine lv_dup hx hb dX4_readOrder_147 rfl ?_
          refine va_get (D := E.1) (cl := vwCl) (ci := 4) (v := .int (iI om)) (C := RX4) (T := TX4) (N := 12) hx hb hts hinX4 hown hK hP 0 rfl rfl 9 (by decide) hf_181 (fun _ h => h) rfl dX4_readOrder_148 ?_
          refine lv_iconst (v := iI 1) hx hb dX4_readOrder_151 (by decide) ?_
          refine z_iadd hx hb dX4_readOrder_152 ?_
          refine va_put (D := E.1) (cl := vwCl) (ci := 4) (v := .int (iI (om + 1))) (ty := .int) (C := RX4) (T := TX4) (N := 12) hx hb hts hinX4 tyX4 tyX4_ok nmX4 hown hK hP hD hS 0 rfl rfl 9 (by decide) hf_181 (fun _ h => h) rfl (by decide +kernel) (rfl) (rfl) (Nat.le_of_ble_eq_true rfl) dX4_readOrder_153 (fun H locs hP hD hS => ?_)
          have hP : va_P E.1 vwCl (wM E q z pa sl sv sp pd (iU od (4 * om) (Lt pd ty st)) pm ty (om + 1) (wS wr st) (q1W pd ty wr st)) H := hP
          have hD : va_D A (wM E q z pa sl sv sp pd (iU od (4 * om) (Lt pd ty st)) pm ty (om + 1) (wS wr st) (q1W pd ty wr st)) := hD
          have eqc_od : (roD pd ty wr st od om) = (iU od (4 * om) (Lt pd ty st)) := by first | (exfalso; omega) | (unfold roD roD3; (repeat (first | with_reducible rfl | rw [if_pos (by omega)] | rw [if_neg (by omega)])))
          have eqc_st : (roS pd ty wr st) = wS wr st := by first | (exfalso; omega) | (unfold roS q1S; (repeat (first | with_reducible rfl | rw [if_pos (by omega)] | rw [if_neg (by omega)])))
          have eqc_wr : (roW pd ty wr st) = q1W pd ty wr st := by first | (exfalso; omega) | (unfold roW; (repeat (first | with_reducible rfl | rw [if_pos (by omega)] | rw [if_neg (by omega)])))
          have hP : va_P E.1 vwCl (wM E q z pa sl sv sp pd (roD pd ty wr st od om) pm ty (om + 1) (roS pd ty wr st) (roW pd ty wr st)) H := by rw [eqc_od, eqc_st, eqc_wr]; exact hP
          have hD : va_D A (wM E q z pa sl sv sp pd (roD pd ty wr st od om) pm ty (om + 1) (roS pd ty wr st) (roW pd ty wr st)) := by rw [eqc_od, eqc_st, eqc_wr]; exact hD
          exact z_vret hx hb hr hlocks hK hS () (by first | rfl | trivial | exact zb_t' (by omega) | exact zb_f' (by omega) | omega) hP hD dX4_readOrder_156
        · refine lv_iload_n hx hb dX4_readOrder_54 rfl (lv_at hl 1 rfl) ?_
          refine lv_bipush (v := iI 103) hx hb dX4_readOrder_55 (by decide) ?_
          refine z_icmp_eq (tgt := 72) hx hb dX4_readOrder_57 (by decide) ⟨by first | omega | exact (hz _ _ (by omega)).1 | exact (hz _ _ (by omega)).2, by first | omega | exact (hz _ _ (by omega)).1 | exact (hz _ _ (by omega)).2⟩ ⟨by first | omega | exact (hz _ _ (by omega)).1 | exact (hz _ _ (by omega)).2, by first | omega | exact (hz _ _ (by omega)).1 | exact (hz _ _ (by omega)).2⟩ (fun c_57 => ?_) (fun c_57 => ?_)
          · refine lv_iconst (v := iI 1) hx hb dX4_readOrder_72 (by decide) ?_
            refine lv_goto (tgt := 77) hx hb dX4_readOrder_73 (by decide) ?_
            refine z_callVv0 (ci := 4) (qk := 0) (As := [.int (iI 1)]) (rest := []) hx hb hml hown hts hK hA hl.1 hP hD hS (c_X4_wants l E q z pa sl sv sp pd (iU od (4 * om) (Lt pd ty st)) pm ty om st wr 1  (by first | omega | exact hpd | exact ⟨by omega, by omega⟩ | exact zb_01) (by first | omega | exact hpd | exact ⟨by omega, by omega⟩ | exact zb_01) (by first | omega | exact hpd | exact ⟨by omega, by omega⟩ | exact zb_01)) gX4_readOrder_X4_wants rfl ndX4_wants ⟨Nat.le_of_ble_eq_true rfl, Nat.le_of_ble_eq_true rfl⟩ rfl rfl rfl rfl rfl (Nat.le_of_ble_eq_true rfl) dX4_readOrder_77 ⟨Nat.le_of_ble_eq_true rfl, Nat.le_of_ble_eq_true rfl⟩ (fun u H locs hpost hP hD hS => ?_)
            have hP : va_P E.1 vwCl (wM E q z pa sl sv sp pd (iU od (4 * om) (Lt pd ty st)) pm ty om (wS wr st) (wW 1 wr st)) H := hP
            have hD : va_D A (wM E q z pa sl sv sp pd (iU od (4 * om) (Lt pd ty st)) pm ty om (wS wr st) (wW 1 wr st)) := hD
            have hw1 : q1W pd ty wr st = (wW 1 wr st) := by unfold q1W; first | rw [zb_t (by omega)] | rw [zb_f (by omega)]
            rw [← hw1] at hP hD
            refine lv_iload_n hx hb dX4_readOrder_80 rfl (lv_at hl 0 rfl) ?_
            refine z_if_eq (tgt := 110) hx hb dX4_readOrder_81 (by decide) ⟨by first | omega | exact (hz _ _ (by omega)).1 | exact (hz _ _ (by omega)).2, by first | omega | exact (hz _ _ (by omega)).1 | exact (hz _ _ (by omega)).2⟩ (fun c_81 => ?_) (fun c_81 => absurd c_81 (by omega))
            refine lv_iload_n hx hb dX4_readOrder_110 rfl (lv_at hl 1 rfl) ?_
            refine lv_bipush (v := iI 119) hx hb dX4_readOrder_111 (by decide) ?_
            refine z_icmp_ne (tgt := 146) hx hb dX4_readOrder_113 (by decide) ⟨by first | omega | exact (hz _ _ (by omega)).1 | exact (hz _ _ (by omega)).2, by first | omega | exact (hz _ _ (by omega)).1 | exact (hz _ _ (by omega)).2⟩ ⟨by first | omega | exact (hz _ _ (by omega)).1 | exact (hz _ _ (by omega)).2, by first | omega | exact (hz _ _ (by omega)).1 | exact (hz _ _ (by omega)).2⟩ (fun c_113 => ?_) (fun c_113 => absurd c_113 (by omega))
            refine lv_aload_n hx hb dX4_readOrder_146 rfl (lv_at hl 3 rfl) ?_
            refine lv_dup hx hb dX4_readOrder_147 rfl ?_
            refine va_get (D := E.1) (cl := vwCl) (ci := 4) (v := .int (iI om)) (C := RX4) (T := TX4) (N := 12) hx hb hts hinX4 hown hK hP 0 rfl rfl 9 (by decide) hf_181 (fun _ h => h) rfl dX4_readOrder_148 ?_
            refine lv_iconst (v := iI 1) hx hb dX4_readOrder_151 (by decide) ?_
            refine z_iadd hx hb dX4_readOrder_152 ?_
            refine va_put (D := E.1) (cl := vwCl) (ci := 4) (v := .int (iI (om + 1))) (ty := .int) (C := RX4) (T := TX4) (N := 12) hx hb hts hinX4 tyX4 tyX4_ok nmX4 hown hK hP hD hS 0 rfl rfl 9 (by decide) hf_181 (fun _ h => h) rfl (by decide +kernel) (rfl) (rfl) (Nat.le_of_ble_eq_true rfl) dX4_readOrder_153 (fun H locs hP hD hS => ?_)
            have hP : va_P E.1 vwCl (wM E q z pa sl sv sp pd (iU od (4 * om) (Lt pd ty st)) pm ty (om + 1) (wS wr st) (q1W pd ty wr st)) H := hP
            have hD : va_D A (wM E q z pa sl sv sp pd (iU od (4 * om) (Lt pd ty st)) pm ty (om + 1) (wS wr st) (q1W pd ty wr st)) := hD
            have eqc_od : (roD pd ty wr st od om) = (iU od (4 * om) (Lt pd ty st)) := by first | (exfalso; omega) | (unfold roD roD3; (repeat (first | with_reducible rfl | rw [if_pos (by omega)] | rw [if_neg (by omega)])))
            have eqc_st : (roS pd ty wr st) = wS wr st := by first | (exfalso; omega) | (unfold roS q1S; (repeat (first | with_reducible rfl | rw [if_pos (by omega)] | rw [if_neg (by omega)])))
            have eqc_wr : (roW pd ty wr st) = q1W pd ty wr st := by first | (exfalso; omega) | (unfold roW; (repeat (first | with_reducible rfl | rw [if_pos (by omega)] | rw [if_neg (by omega)])))
            have hP : va_P E.1 vwCl (wM E q z pa sl sv sp pd (roD pd ty wr st od om) pm ty (om + 1) (roS pd ty wr st) (roW pd ty wr st)) H := by rw [eqc_od, eqc_st, eqc_wr]; exact hP
            have hD : va_D A (wM E q z pa sl sv sp pd (roD pd ty wr st od om) pm ty (om + 1) (roS pd ty wr st) (roW pd ty wr st)) := by rw [eqc_od, eqc_st, eqc_wr]; exact hD
            exact z_vret hx hb hr hlocks hK hS () (by first | rfl | trivial | exact zb_t' (by omega) | exact zb_f' (by omega) | omega) hP hD dX4_readOrder_156
          · refine lv_iload_n hx hb dX4_readOrder_60 rfl (lv_at hl 1 rfl) ?_
            refine lv_bipush (v := iI 102) hx hb dX4_readOrder_61 (by decide) ?_
            refine z_icmp_eq (tgt := 72) hx hb dX4_readOrder_63 (by decide) ⟨by first | omega | exact (hz _ _ (by omega)).1 | exact (hz _ _ (by omega)).2, by first | omega | exact (hz _ _ (by omega)).1 | exact (hz _ _ (by omega)).2⟩ ⟨by first | omega | exact (hz _ _ (by omega)).1 | exact (hz _ _ (by omega)).2, by first | omega | exact (hz _ _ (by omega)).1 | exact (hz _ _ (by omega)).2⟩ (fun c_63 => ?_) (fun c_63 => ?_)
            · refine lv_iconst (v := iI 1) hx hb dX4_readOrder_72 (by decide) ?_
              refine lv_goto (tgt := 77) hx hb dX4_readOrder_73 (by decide) ?_
              refine z_callVv0 (ci := 4) (qk := 0) (As := [.int (iI 1)]) (rest := []) hx hb hml hown hts hK hA hl.1 hP hD hS (c_X4_wants l E q z pa sl sv sp pd (iU od (4 * om) (Lt pd ty st)) pm ty om st wr 1  (by first | omega | exact hpd | exact ⟨by omega, by omega⟩ | exact zb_01) (by first | omega | exact hpd | exact ⟨by omega, by omega⟩ | exact zb_01) (by first | omega | exact hpd | exact ⟨by omega, by omega⟩ | exact zb_01)) gX4_readOrder_X4_wants rfl ndX4_wants ⟨Nat.le_of_ble_eq_true rfl, Nat.le_of_ble_eq_true rfl⟩ rfl rfl rfl rfl rfl (Nat.le_of_ble_eq_true rfl) dX4_readOrder_77 ⟨Nat.le_of_ble_eq_true rfl, Nat.le_of_ble_eq_true rfl⟩ (fun u H locs hpost hP hD hS => ?_)
              have hP : va_P E.1 vwCl (wM E q z pa sl sv sp pd (iU od (4 * om) (Lt pd ty st)) pm ty om (wS wr st) (wW 1 wr st)) H := hP
              have hD : va_D A (wM E q z pa sl sv sp pd (iU od (4 * om) (Lt pd ty st)) pm ty om (wS wr st) (wW 1 wr st)) := hD
              have hw1 : q1W pd ty wr st = (wW 1 wr st) := by unfold q1W; first | rw [zb_t (by omega)] | rw [zb_f (by omega)]
              rw [← hw1] at hP hD
              refine lv_iload_n hx hb dX4_readOrder_80 rfl (lv_at hl 0 rfl) ?_
              refine z_if_eq (tgt := 110) hx hb dX4_readOrder_81 (by decide) ⟨by first | omega | exact (hz _ _ (by omega)).1 | exact (hz _ _ (by omega)).2, by first | omega | exact (hz _ _ (by omega)).1 | exact (hz _ _ (by omega)).2⟩ (fun c_81 => ?_) (fun c_81 => absurd c_81 (by omega))
              refine lv_iload_n hx hb dX4_readOrder_110 rfl (lv_at hl 1 rfl) ?_
              refine lv_bipush (v := iI 119) hx hb dX4_readOrder_111 (by decide) ?_
              refine z_icmp_ne (tgt := 146) hx hb dX4_readOrder_113 (by decide) ⟨by first | omega | exact (hz _ _ (by omega)).1 | exact (hz _ _ (by omega)).2, by first | omega | exact (hz _ _ (by omega)).1 | exact (hz _ _ (by omega)).2⟩ ⟨by first | omega | exact (hz _ _ (by omega)).1 | exact (hz _ _ (by omega)).2, by first | omega | exact (hz _ _ (by omega)).1 | exact (hz _ _ (by omega)).2⟩ (fun c_113 => ?_) (fun c_113 => absurd c_113 (by omega))
              refine lv_aload_n hx hb dX4_readOrder_146 rfl (lv_at hl 3 rfl) ?_
              refine lv_dup hx hb dX4_readOrder_147 rfl ?_
              refine va_get (D := E.1) (cl := vwCl) (ci := 4) (v := .int (iI om)) (C := RX4) (T := TX4) (N := 12) hx hb hts hinX4 hown hK hP 0 rfl rfl 9 (by decide) hf_181 (fun _ h => h) rfl dX4_readOrder_148 ?_
              refine lv_iconst (v := iI 1) hx hb dX4_readOrder_151 (by decide) ?_
              refine z_iadd hx hb dX4_readOrder_152 ?_
              refine va_put (D := E.1) (cl := vwCl) (ci := 4) (v := .int (iI (om + 1))) (ty := .int) (C := RX4) (T := TX4) (N := 12) hx hb hts hinX4 tyX4 tyX4_ok nmX4 hown hK hP hD hS 0 rfl rfl 9 (by decide) hf_181 (fun _ h => h) rfl (by decide +kernel) (rfl) (rfl) (Nat.le_of_ble_eq_true rfl) dX4_readOrder_153 (fun H locs hP hD hS => ?_)
              have hP : va_P E.1 vwCl (wM E q z pa sl sv sp pd (iU od (4 * om) (Lt pd ty st)) pm ty (om + 1) (wS wr st) (q1W pd ty wr st)) H := hP
              have hD : va_D A (wM E q z pa sl sv sp pd (iU od (4 * om) (Lt pd ty st)) pm ty (om + 1) (wS wr st) (q1W pd ty wr st)) := hD
              have eqc_od : (roD pd ty wr st od om) = (iU od (4 * om) (Lt pd ty st)) := by first | (exfalso; omega) | (unfold roD roD3; (repeat (first | with_reducible rfl | rw [if_pos (by omega)] | rw [if_neg (by omega)])))
              have eqc_st : (roS pd ty wr st) = wS wr st := by first | (exfalso; omega) | (unfold roS q1S; (repeat (first | with_reducible rfl | rw [if_pos (by omega)] | rw [if_neg (by omega)])))
              have eqc_wr : (roW pd ty wr st) = q1W pd ty wr st := by first | (exfalso; omega) | (unfold roW; (repeat (first | with_reducible rfl | rw [if_pos (by omega)] | rw [if_neg (by omega)])))
              have hP : va_P E.1 vwCl (wM E q z pa sl sv sp pd (roD pd ty wr st od om) pm ty (om + 1) (roS pd ty wr st) (roW pd ty wr st)) H := by rw [eqc_od, eqc_st, eqc_wr]; exact hP
              have hD : va_D A (wM E q z pa sl sv sp pd (roD pd ty wr st od om) pm ty (om + 1) (roS pd ty wr st) (roW pd ty wr st)) := by rw [eqc_od, eqc_st, eqc_wr]; exact hD
              exact z_vret hx hb hr hlocks hK hS () (by first | rfl | trivial | exact zb_t' (by omega) | exact zb_f' (by omega) | omega) hP hD dX4_readOrder_156
            · refine lv_iload_n hx hb dX4_readOrder_66 rfl (lv_at hl 1 rfl) ?_
              refine lv_bipush (v := iI 97) hx hb dX4_readOrder_67 (by decide) ?_
              refine z_icmp_ne (tgt := 76) hx hb dX4_readOrder_69 (by decide) ⟨by first | omega | exact (hz _ _ (by omega)).1 | exact (hz _ _ (by omega)).2, by first | omega | exact (hz _ _ (by omega)).1 | exact (hz _ _ (by omega)).2⟩ ⟨by first | omega | exact (hz _ _ (by omega)).1 | exact (hz _ _ (by omega)).2, by first | omega | exact (hz _ _ (by omega)).1 | exact (hz _ _ (by omega)).2⟩ (fun c_69 => ?_) (fun c_69 => ?_)
              · refine lv_iconst (v := iI 0) hx hb dX4_readOrder_76 (by decide) ?_
                refine z_callVv0 (ci := 4) (qk := 0) (As := [.int (iI 0)]) (rest := []) hx hb hml hown hts hK hA hl.1 hP hD hS (c_X4_wants l E q z pa sl sv sp pd (iU od (4 * om) (Lt pd ty st)) pm ty om st wr 0  (by first | omega | exact hpd | exact ⟨by omega, by omega⟩ | exact zb_01) (by first | omega | exact hpd | exact ⟨by omega, by omega⟩ | exact zb_01) (by first | omega | exact hpd | exact ⟨by omega, by omega⟩ | exact zb_01)) gX4_readOrder_X4_wants rfl ndX4_wants ⟨Nat.le_of_ble_eq_true rfl, Nat.le_of_ble_eq_true rfl⟩ rfl rfl rfl rfl rfl (Nat.le_of_ble_eq_true rfl) dX4_readOrder_77 ⟨Nat.le_of_ble_eq_true rfl, Nat.le_of_ble_eq_true rfl⟩ (fun u H locs hpost hP hD hS => ?_)
                have hP : va_P E.1 vwCl (wM E q z pa sl sv sp pd (iU od (4 * om) (Lt pd ty st)) pm ty om (wS wr st) (wW 0 wr st)) H := hP
                have hD : va_D A (wM E q z pa sl sv sp pd (iU od (4 * om) (Lt pd ty st)) pm ty om (wS wr st) (wW 0 wr st)) := hD
                have hw1 : q1W pd ty wr st = (wW 0 wr st) := by unfold q1W; first | rw [zb_t (by omega)] | rw [zb_f (by omega)]
                rw [← hw1] at hP hD
                refine lv_iload_n hx hb dX4_readOrder_80 rfl (lv_at hl 0 rfl) ?_
                refine z_if_eq (tgt := 110) hx hb dX4_readOrder_81 (by decide) ⟨by first | omega | exact (hz _ _ (by omega)).1 | exact (hz _ _ (by omega)).2, by first | omega | exact (hz _ _ (by omega)).1 | exact (hz _ _ (by omega)).2⟩ (fun c_81 => ?_) (fun c_81 => absurd c_81 (by omega))
                refine lv_iload_n hx hb dX4_readOrder_110 rfl (lv_at hl 1 rfl) ?_
                refine lv_bipush (v := iI 119) hx hb dX4_readOrder_111 (by decide) ?_
                refine z_icmp_ne (tgt := 146) hx hb dX4_readOrder_113 (by decide) ⟨by first | omega | exact (hz _ _ (by omega)).1 | exact (hz _ _ (by omega)).2, by first | omega | exact (hz _ _ (by omega)).1 | exact (hz _ _ (by omega)).2⟩ ⟨by first | omega | exact (hz _ _ (by omega)).1 | exact (hz _ _ (by omega)).2, by first | omega | exact (hz _ _ (by omega)).1 | exact (hz _ _ (by omega)).2⟩ (fun c_113 => ?_) (fun c_113 => absurd c_113 (by omega))
                refine lv_aload_n hx hb dX4_readOrder_146 rfl (lv_at hl 3 rfl) ?_
                refine lv_dup hx hb dX4_readOrder_147 rfl ?_
                refine va_get (D := E.1) (cl := vwCl) (ci := 4) (v := .int (iI om)) (C := RX4) (T := TX4) (N := 12) hx hb hts hinX4 hown hK hP 0 rfl rfl 9 (by decide) hf_181 (fun _ h => h) rfl dX4_readOrder_148 ?_
                refine lv_iconst (v := iI 1) hx hb dX4_readOrder_151 (by decide) ?_
                refine z_iadd hx hb dX4_readOrder_152 ?_
                refine va_put (D := E.1) (cl := vwCl) (ci := 4) (v := .int (iI (om + 1))) (ty := .int) (C := RX4) (T := TX4) (N := 12) hx hb hts hinX4 tyX4 tyX4_ok nmX4 hown hK hP hD hS 0 rfl rfl 9 (by decide) hf_181 (fun _ h => h) rfl (by decide +kernel) (rfl) (rfl) (Nat.le_of_ble_eq_true rfl) dX4_readOrder_153 (fun H locs hP hD hS => ?_)
                have hP : va_P E.1 vwCl (wM E q z pa sl sv sp pd (iU od (4 * om) (Lt pd ty st)) pm ty (om + 1) (wS wr st) (q1W pd ty wr st)) H := hP
                have hD : va_D A (wM E q z pa sl sv sp pd (iU od (4 * om) (Lt pd ty st)) pm ty (om + 1) (wS wr st) (q1W pd ty wr st)) := hD
                have eqc_od : (roD pd ty wr st od om) = (iU od (4 * om) (Lt pd ty st)) := by first | (exfalso; omega) | (unfold roD roD3; (repeat (first | with_reducible rfl | rw [if_pos (by omega)] | rw [if_neg (by omega)])))
                have eqc_st : (roS pd ty wr st) = wS wr st := by first | (exfalso; omega) | (unfold roS q1S; (repeat (first | with_reducible rfl | rw [if_pos (by omega)] | rw [if_neg (by omega)])))
                have eqc_wr : (roW pd ty wr st) = q1W pd ty wr st := by first | (exfalso; omega) | (unfold roW; (repeat (first | with_reducible rfl | rw [if_pos (by omega)] | rw [if_neg (by omega)])))
                have hP : va_P E.1 vwCl (wM E q z pa sl sv sp pd (roD pd ty wr st od om) pm ty (om + 1) (roS pd ty wr st) (roW pd ty wr st)) H := by rw [eqc_od, eqc_st, eqc_wr]; exact hP
                have hD : va_D A (wM E q z pa sl sv sp pd (roD pd ty wr st od om) pm ty (om + 1) (roS pd ty wr st) (roW pd ty wr st)) := by rw [eqc_od, eqc_st, eqc_wr]; exact hD
                exact z_vret hx hb hr hlocks hK hS () (by first | rfl | trivial | exact zb_t' (by omega) | exact zb_f' (by omega) | omega) hP hD dX4_readOrder_156
              · refine lv_iconst (v := iI 1) hx hb dX4_readOrder_72 (by decide) ?_
                refine lv_goto (tgt := 77) hx hb dX4_readOrder_73 (by decide) ?_
                refine z_callVv0 (ci := 4) (qk := 0) (As := [.int (iI 1)]) (rest := []) hx hb hml hown hts hK hA hl.1 hP hD hS (c_X4_wants l E q z pa sl sv sp pd (iU od (4 * om) (Lt pd ty st)) pm ty om st wr 1  (by first | omega | exact hpd | exact ⟨by omega, by omega⟩ | exact zb_01) (by first | omega | exact hpd | exact ⟨by omega, by omega⟩ | exact zb_01) (by first | omega | exact hpd | exact ⟨by omega, by omega⟩ | exact zb_01)) gX4_readOrder_X4_wants rfl ndX4_wants ⟨Nat.le_of_ble_eq_true rfl, Nat.le_of_ble_eq_true rfl⟩ rfl rfl rfl rfl rfl (Nat.le_of_ble_eq_true rfl) dX4_readOrder_77 ⟨Nat.le_of_ble_eq_true rfl, Nat.le_of_ble_eq_true rfl⟩ (fun u H locs hpost hP hD hS => ?_)
                have hP : va_P E.1 vwCl (wM E q z pa sl sv sp pd (iU od (4 * om) (Lt pd ty st)) pm ty om (wS wr st) (wW 1 wr st)) H := hP
                have hD : va_D A (wM E q z pa sl sv sp pd (iU od (4 * om) (Lt pd ty st)) pm ty om (wS wr st) (wW 1 wr st)) := hD
                have hw1 : q1W pd ty wr st = (wW 1 wr st) := by unfold q1W; first | rw [zb_t (by omega)] | rw [zb_f (by omega)]
                rw [← hw1] at hP hD
                refine lv_iload_n hx hb dX4_readOrder_80 rfl (lv_at hl 0 rfl) ?_
                refine z_if_eq (tgt := 110) hx hb dX4_readOrder_81 (by decide) ⟨by first | omega | exact (hz _ _ (by omega)).1 | exact (hz _ _ (by omega)).2, by first | omega | exact (hz _ _ (by omega)).1 | exact (hz _ _ (by omega)).2⟩ (fun c_81 => ?_) (fun c_81 => absurd c_81 (by omega))
                refine lv_iload_n hx hb dX4_readOrder_110 rfl (lv_at hl 1 rfl) ?_
                refine lv_bipush (v := iI 119) hx hb dX4_readOrder_111 (by decide) ?_
                refine z_icmp_ne (tgt := 146) hx hb dX4_readOrder_113 (by decide) ⟨by first | omega | exact (hz _ _ (by omega)).1 | exact (hz _ _ (by omega)).2, by first | omega | exact (hz _ _ (by omega)).1 | exact (hz _ _ (by omega)).2⟩ ⟨by first | omega | exact (hz _ _ (by omega)).1 | exact (hz _ _ (by omega)).2, by first | omega | exact (hz _ _ (by omega)).1 | exact (hz _ _ (by omega)).2⟩ (fun c_113 => ?_) (fun c_113 => absurd c_113 (by omega))
                refine lv_aload_n hx hb dX4_readOrder_146 rfl (lv_at hl 3 rfl) ?_
                refine lv_dup hx hb dX4_readOrder_147 rfl ?_
                refine va_get (D := E.1) (cl := vwCl) (ci := 4) (v := .int (iI om)) (C := RX4) (T := TX4) (N := 12) hx hb hts hinX4 hown hK hP 0 rfl rfl 9 (by decide) hf_181 (fun _ h => h) rfl dX4_readOrder_148 ?_
                refine lv_iconst (v := iI 1) hx hb dX4_readOrder_151 (by decide) ?_
                refine z_iadd hx hb dX4_readOrder_152 ?_
                refine va_put (D := E.1) (cl := vwCl) (ci := 4) (v := .int (iI (om + 1))) (ty := .int) (C := RX4) (T := TX4) (N := 12) hx hb hts hinX4 tyX4 tyX4_ok nmX4 hown hK hP hD hS 0 rfl rfl 9 (by decide) hf_181 (fun _ h => h) rfl (by decide +kernel) (rfl) (rfl) (Nat.le_of_ble_eq_true rfl) dX4_readOrder_153 (fun H locs hP hD hS => ?_)
                have hP : va_P E.1 vwCl (wM E q z pa sl sv sp pd (iU od (4 * om) (Lt pd ty st)) pm ty (om + 1) (wS wr st) (q1W pd ty wr st)) H := hP
                have hD : va_D A (wM E q z pa sl sv sp pd (iU od (4 * om) (Lt pd ty st)) pm ty (om + 1) (wS wr st) (q1W pd ty wr st)) := hD
                have eqc_od : (roD pd ty wr st od om) = (iU od (4 * om) (Lt pd ty st)) := by first | (exfalso; omega) | (unfold roD roD3; (repeat (first | with_reducible rfl | rw [if_pos (by omega)] | rw [if_neg (by omega)])))
                have eqc_st : (roS pd ty wr st) = wS wr st := by first | (exfalso; omega) | (unfold roS q1S; (repeat (first | with_reducible rfl | rw [if_pos (by omega)] | rw [if_neg (by omega)])))
                have eqc_wr : (roW pd ty wr st) = q1W pd ty wr st := by first | (exfalso; omega) | (unfold roW; (repeat (first | with_reducible rfl | rw [if_pos (by omega)] | rw [if_neg (by omega)])))
                have hP : va_P E.1 vwCl (wM E q z pa sl sv sp pd (roD pd ty wr st od om) pm ty (om + 1) (roS pd ty wr st) (roW pd ty wr st)) H := by rw [eqc_od, eqc_st, eqc_wr]; exact hP
                have hD : va_D A (wM E q z pa sl sv sp pd (roD pd ty wr st od om) pm ty (om + 1) (roS pd ty wr st) (roW pd ty wr st)) := by rw [eqc_od, eqc_st, eqc_wr]; exact hD
                exact z_vret hx hb hr hlocks hK hS () (by first | rfl | trivial | exact zb_t' (by omega) | exact zb_f' (by omega) | omega) hP hD dX4_readOrder_156
      · refine lv_iconst (v := iI 1) hx hb dX4_readOrder_37 (by decide) ?_
        refine lv_goto (tgt := 42) hx hb dX4_readOrder_38 (by decide) ?_
        refine lv_istore_n (lv' := [(3, .int (iI 1)), (2, .int (iI (Lt pd ty st))), (1, .int (iI (4 * om))), (0, .ref (q 0))]) hx hb dX4_readOrder_42 rfl hl (by decide) rfl (fun ls hl => ?_)
        refine lv_aload_n hx hb dX4_readOrder_43 rfl (lv_at hl 3 rfl) ?_
        refine lv_iload_n hx hb dX4_readOrder_44 rfl (lv_at hl 0 rfl) ?_
        refine z_if_ne (tgt := 72) hx hb dX4_readOrder_45 (by decide) ⟨by first | omega | exact (hz _ _ (by omega)).1 | exact (hz _ _ (by omega)).2, by first | omega | exact (hz _ _ (by omega)).1 | exact (hz _ _ (by omega)).2⟩ (fun c_45 => ?_) (fun c_45 => absurd c_45 (by omega))
        refine lv_iconst (v := iI 1) hx hb dX4_readOrder_72 (by decide) ?_
        refine lv_goto (tgt := 77) hx hb dX4_readOrder_73 (by decide) ?_
        refine z_callVv0 (ci := 4) (qk := 0) (As := [.int (iI 1)]) (rest := []) hx hb hml hown hts hK hA hl.1 hP hD hS (c_X4_wants l E q z pa sl sv sp pd (iU od (4 * om) (Lt pd ty st)) pm ty om st wr 1  (by first | omega | exact hpd | exact ⟨by omega, by omega⟩ | exact zb_01) (by first | omega | exact hpd | exact ⟨by omega, by omega⟩ | exact zb_01) (by first | omega | exact hpd | exact ⟨by omega, by omega⟩ | exact zb_01)) gX4_readOrder_X4_wants rfl ndX4_wants ⟨Nat.le_of_ble_eq_true rfl, Nat.le_of_ble_eq_true rfl⟩ rfl rfl rfl rfl rfl (Nat.le_of_ble_eq_true rfl) dX4_readOrder_77 ⟨Nat.le_of_ble_eq_true rfl, Nat.le_of_ble_eq_true rfl⟩ (fun u H locs hpost hP hD hS => ?_)
        have hP : va_P E.1 vwCl (wM E q z pa sl sv sp pd (iU od (4 * om) (Lt pd ty st)) pm ty om (wS wr st) (wW 1 wr st)) H := hP
        have hD : va_D A (wM E q z pa sl sv sp pd (iU od (4 * om) (Lt pd ty st)) pm ty om (wS wr st) (wW 1 wr st)) := hD
        have hw1 : q1W pd ty wr st = (wW 1 wr st) := by unfold q1W; first | rw [zb_t (by omega)] | rw [zb_f (by omega)]
        rw [← hw1] at hP hD
        refine lv_iload_n hx hb dX4_readOrder_80 rfl (lv_at hl 0 rfl) ?_
        refine z_if_eq (tgt := 110) hx hb dX4_readOrder_81 (by decide) ⟨by first | omega | exact (hz _ _ (by omega)).1 | exact (hz _ _ (by omega)).2, by first | omega | exact (hz _ _ (by omega)).1 | exact (hz _ _ (by omega)).2⟩ (fun c_81 => absurd c_81 (by omega)) (fun c_81 => ?_)
        have hP : va_P E.1 vwCl (wM E q z pa sl sv sp pd (iU od (4 * om) (Lt pd ty st)) pm ty om (q1S wr st) (q1W pd ty wr st)) H := hP
        have hD : va_D A (wM E q z pa sl sv sp pd (iU od (4 * om) (Lt pd ty st)) pm ty om (q1S wr st) (q1W pd ty wr st)) := hD
        refine lv_aload_n hx hb dX4_readOrder_84 rfl (lv_at hl 3 rfl) ?_
        refine va_get (D := E.1) (cl := vwCl) (ci := 4) (v := .ref (q 7)) (C := RX4) (T := TX4) (N := 12) hx hb hts hinX4 hown hK hP 0 rfl rfl 8 (by decide) hf_30 (fun _ h => h) rfl dX4_readOrder_85 ?_
        refine lv_iload_n hx hb dX4_readOrder_88 rfl (lv_at hl 2 rfl) ?_
        refine lv_iconst (v := iI 1) hx hb dX4_readOrder_89 (by decide) ?_
        refine z_iadd hx hb dX4_readOrder_90 ?_
        refine lv_aload_n hx hb dX4_readOrder_91 rfl (lv_at hl 3 rfl) ?_
        refine lv_iconst (v := iI 0) hx hb dX4_readOrder_92 (by decide) ?_
        refine lv_iconst (v := iI 5) hx hb dX4_readOrder_93 (by decide) ?_
        refine z_callV0 (ci := 4) (qk := 0) (As := [.int (iI 0), .int (iI 5)]) (rest := [.int (iI ((4 * om) + 1)), .ref (q 7)]) hx hb hml hown hts hK hA hl.1 hP hD hS (c_X4_digit l E q z pa sl sv sp pd (iU od (4 * om) (Lt pd ty st)) pm ty om (q1S wr st) (q1W pd ty wr st) 0 5  (by first | omega | exact hpd | exact ⟨by omega, by omega⟩ | exact zb_01) (by first | omega | exact hpd | exact ⟨by omega, by omega⟩ | exact zb_01) (by first | omega | exact hpd | exact ⟨by omega, by omega⟩ | exact zb_01) (by first | omega | exact hpd | exact ⟨by omega, by omega⟩ | exact zb_01) (by first | omega | exact hpd | exact ⟨by omega, by omega⟩ | exact zb_01) (by first | omega | exact hpd | exact ⟨by omega, by omega⟩ | exact zb_01)) gX4_readOrder_X4_digit rfl ndX4_digit ⟨Nat.le_of_ble_eq_true rfl, Nat.le_of_ble_eq_true rfl⟩ rfl rfl rfl rfl rfl (Nat.le_of_ble_eq_true rfl) dX4_readOrder_94 ⟨Nat.le_of_ble_eq_true rfl, Nat.le_of_ble_eq_true rfl⟩ (fun x u H locs hpost hP hD hS => ?_)
        subst hpost
        have hP : va_P E.1 vwCl (wM E q z pa sl sv sp pd (iU od (4 * om) (Lt pd ty st)) pm ty om (wS (q1W pd ty wr st) (q1S wr st)) (dW 0 5 (Lt pd ty (q1S wr st)) (q1W pd ty wr st) (q1S wr st))) H := hP
        have hD : va_D A (wM E q z pa sl sv sp pd (iU od (4 * om) (Lt pd ty st)) pm ty om (wS (q1W pd ty wr st) (q1S wr st)) (dW 0 5 (Lt pd ty (q1S wr st)) (q1W pd ty wr st) (q1S wr st))) := hD
        have hP : va_P E.1 vwCl (wM E q z pa sl sv sp pd (iU od (4 * om) (Lt pd ty st)) pm ty om (q2S pd ty wr st) (q2W pd ty wr st)) H := hP
        have hD : va_D A (wM E q z pa sl sv sp pd (iU od (4 * om) (Lt pd ty st)) pm ty om (q2S pd ty wr st) (q2W pd ty wr st)) := hD
        refine z_iast (D := E.1) (cl := vwCl) (tys := zT E) (f := (iU od (4 * om) (Lt pd ty st))) hx hb hK hP hD hS 7 0 rfl rfl (by omega) (by omega) (by omega) dX4_readOrder_97 (fun H locs hP hD hS => ?_)
        have hP : va_P E.1 vwCl (wM E q z pa sl sv sp pd (iU (iU od (4 * om) (Lt pd ty st)) ((4 * om) + 1) (Lt pd ty (q1S wr st) - 48)) pm ty om (q2S pd ty wr st) (q2W pd ty wr st)) H := hP
        have hD : va_D A (wM E q z pa sl sv sp pd (iU (iU od (4 * om) (Lt pd ty st)) ((4 * om) + 1) (Lt pd ty (q1S wr st) - 48)) pm ty om (q2S pd ty wr st) (q2W pd ty wr st)) := hD
        refine lv_aload_n hx hb dX4_readOrder_98 rfl (lv_at hl 3 rfl) ?_
        refine va_get (D := E.1) (cl := vwCl) (ci := 4) (v := .ref (q 7)) (C := RX4) (T := TX4) (N := 12) hx hb hts hinX4 hown hK hP 0 rfl rfl 8 (by decide) hf_30 (fun _ h => h) rfl dX4_readOrder_99 ?_
        refine lv_iload_n hx hb dX4_readOrder_102 rfl (lv_at hl 2 rfl) ?_
        refine lv_iconst (v := iI 2) hx hb dX4_readOrder_103 (by decide) ?_
        refine z_iadd hx hb dX4_readOrder_104 ?_
        refine lv_aload_n hx hb dX4_readOrder_105 rfl (lv_at hl 3 rfl) ?_
        refine z_callV0 (ci := 4) (qk := 0) (As := []) (rest := [.int (iI ((4 * om) + 2)), .ref (q 7)]) hx hb hml hown hts hK hA hl.1 hP hD hS (c_X4_name l E q z pa sl sv sp pd (iU (iU od (4 * om) (Lt pd ty st)) ((4 * om) + 1) (Lt pd ty (q1S wr st) - 48)) pm ty om (q2S pd ty wr st) (q2W pd ty wr st)   (by first | omega | exact hpd | exact ⟨by omega, by omega⟩ | exact zb_01) (by first | omega | exact hpd | exact ⟨by omega, by omega⟩ | exact zb_01) (by first | omega | exact hpd | exact ⟨by omega, by omega⟩ | exact zb_01) (by first | omega | exact hpd | exact ⟨by omega, by omega⟩ | exact zb_01)) gX4_readOrder_X4_name rfl ndX4_name ⟨Nat.le_of_ble_eq_true rfl, Nat.le_of_ble_eq_true rfl⟩ rfl rfl rfl rfl rfl (Nat.le_of_ble_eq_true rfl) dX4_readOrder_106 ⟨Nat.le_of_ble_eq_true rfl, Nat.le_of_ble_eq_true rfl⟩ (fun x u H locs hpost hP hD hS => ?_)
        subst hpost
        have hP : va_P E.1 vwCl (wM E q z pa sl sv sp pd (iU (iU od (4 * om) (Lt pd ty st)) ((4 * om) + 1) (Lt pd ty (q1S wr st) - 48)) pm ty om (naS pd ty (q2W pd ty wr st) (q2S pd ty wr st)) (naW pd ty (q2W pd ty wr st) (q2S pd ty wr st))) H := hP
        have hD : va_D A (wM E q z pa sl sv sp pd (iU (iU od (4 * om) (Lt pd ty st)) ((4 * om) + 1) (Lt pd ty (q1S wr st) - 48)) pm ty om (naS pd ty (q2W pd ty wr st) (q2S pd ty wr st)) (naW pd ty (q2W pd ty wr st) (q2S pd ty wr st))) := hD
        have hP : va_P E.1 vwCl (wM E q z pa sl sv sp pd (iU (iU od (4 * om) (Lt pd ty st)) ((4 * om) + 1) (Lt pd ty (q1S wr st) - 48)) pm ty om (q3S pd ty wr st) (q3W pd ty wr st)) H := hP
        have hD : va_D A (wM E q z pa sl sv sp pd (iU (iU od (4 * om) (Lt pd ty st)) ((4 * om) + 1) (Lt pd ty (q1S wr st) - 48)) pm ty om (q3S pd ty wr st) (q3W pd ty wr st)) := hD
        refine z_iast (D := E.1) (cl := vwCl) (tys := zT E) (f := (iU (iU od (4 * om) (Lt pd ty st)) ((4 * om) + 1) (Lt pd ty (q1S wr st) - 48))) hx hb hK hP hD hS 7 0 rfl rfl (by omega) (by omega) (by omega) dX4_readOrder_109 (fun H locs hP hD hS => ?_)
        have hP : va_P E.1 vwCl (wM E q z pa sl sv sp pd (iU (iU (iU od (4 * om) (Lt pd ty st)) ((4 * om) + 1) (Lt pd ty (q1S wr st) - 48)) ((4 * om) + 2) (naV pd ty (q2W pd ty wr st) (q2S pd ty wr st))) pm ty om (q3S pd ty wr st) (q3W pd ty wr st)) H := hP
        have hD : va_D A (wM E q z pa sl sv sp pd (iU (iU (iU od (4 * om) (Lt pd ty st)) ((4 * om) + 1) (Lt pd ty (q1S wr st) - 48)) ((4 * om) + 2) (naV pd ty (q2W pd ty wr st) (q2S pd ty wr st))) pm ty om (q3S pd ty wr st) (q3W pd ty wr st)) := hD
        refine lv_iload_n hx hb dX4_readOrder_110 rfl (lv_at hl 1 rfl) ?_
        refine lv_bipush (v := iI 119) hx hb dX4_readOrder_111 (by decide) ?_
        refine z_icmp_ne (tgt := 146) hx hb dX4_readOrder_113 (by decide) ⟨by first | omega | exact (hz _ _ (by omega)).1 | exact (hz _ _ (by omega)).2, by first | omega | exact (hz _ _ (by omega)).1 | exact (hz _ _ (by omega)).2⟩ ⟨by first | omega | exact (hz _ _ (by omega)).1 | exact (hz _ _ (by omega)).2, by first | omega | exact (hz _ _ (by omega)).1 | exact (hz _ _ (by omega)).2⟩ (fun c_113 => ?_) (fun c_113 => absurd c_113 (by omega))
        refine lv_aload_n hx hb dX4_readOrder_146 rfl (lv_at hl 3 rfl) ?_
        refine lv_dup hx hb dX4_readOrder_147 rfl ?_
        refine va_get (D := E.1) (cl := vwCl) (ci := 4) (v := .int (iI om)) (C := RX4) (T := TX4) (N := 12) hx hb hts hinX4 hown hK hP 0 rfl rfl 9 (by decide) hf_181 (fun _ h => h) rfl dX4_readOrder_148 ?_
        refine lv_iconst (v := iI 1) hx hb dX4_readOrder_151 (by decide) ?_
        refine z_iadd hx hb dX4_readOrder_152 ?_
        refine va_put (D := E.1) (cl := vwCl) (ci := 4) (v := .int (iI (om + 1))) (ty := .int) (C := RX4) (T := TX4) (N := 12) hx hb hts hinX4 tyX4 tyX4_ok nmX4 hown hK hP hD hS 0 rfl rfl 9 (by decide) hf_181 (fun _ h => h) rfl (by decide +kernel) (rfl) (rfl) (Nat.le_of_ble_eq_true rfl) dX4_readOrder_153 (fun H locs hP hD hS => ?_)
        have hP : va_P E.1 vwCl (wM E q z pa sl sv sp pd (iU (iU (iU od (4 * om) (Lt pd ty st)) ((4 * om) + 1) (Lt pd ty (q1S wr st) - 48)) ((4 * om) + 2) (naV pd ty (q2W pd ty wr st) (q2S pd ty wr st))) pm ty (om + 1) (q3S pd ty wr st) (q3W pd ty wr st)) H := hP
        have hD : va_D A (wM E q z pa sl sv sp pd (iU (iU (iU od (4 * om) (Lt pd ty st)) ((4 * om) + 1) (Lt pd ty (q1S wr st) - 48)) ((4 * om) + 2) (naV pd ty (q2W pd ty wr st) (q2S pd ty wr st))) pm ty (om + 1) (q3S pd ty wr st) (q3W pd ty wr st)) := hD
        have eqc_od : (roD pd ty wr st od om) = (iU (iU (iU od (4 * om) (Lt pd ty st)) ((4 * om) + 1) (Lt pd ty (q1S wr st) - 48)) ((4 * om) + 2) (naV pd ty (q2W pd ty wr st) (q2S pd ty wr st))) := by first | (exfalso; omega) | (unfold roD roD3; (repeat (first | with_reducible rfl | rw [if_pos (by omega)] | rw [if_neg (by omega)])))
        have eqc_st : (roS pd ty wr st) = q3S pd ty wr st := by first | (exfalso; omega) | (unfold roS q1S; (repeat (first | with_reducible rfl | rw [if_pos (by omega)] | rw [if_neg (by omega)])))
        have eqc_wr : (roW pd ty wr st) = q3W pd ty wr st := by first | (exfalso; omega) | (unfold roW; (repeat (first | with_reducible rfl | rw [if_pos (by omega)] | rw [if_neg (by omega)])))
        have hP : va_P E.1 vwCl (wM E q z pa sl sv sp pd (roD pd ty wr st od om) pm ty (om + 1) (roS pd ty wr st) (roW pd ty wr st)) H := by rw [eqc_od, eqc_st, eqc_wr]; exact hP
        have hD : va_D A (wM E q z pa sl sv sp pd (roD pd ty wr st od om) pm ty (om + 1) (roS pd ty wr st) (roW pd ty wr st)) := by rw [eqc_od, eqc_st, eqc_wr]; exact hD
        exact z_vret hx hb hr hlocks hK hS () (by first | rfl | trivial | exact zb_t' (by omega) | exact zb_f' (by omega) | omega) hP hD dX4_readOrder_156

theorem ndX4_readPad : yX4_readPad.cls = RX4 ∧ yX4_readPad.cls ≠ "java/lang/invoke/MethodHandle" ∧ yX4_readPad.cls ≠ "java/lang/invoke/VarHandle" ∧ (parseMethodDescriptor yX4_readPad.desc).map (fun d => d.parameters.length) = some 0 := by decide +kernel
set_option maxRecDepth 100000 in
set_option maxHeartbeats 1000000 in
theorem c_X4_readPad (l : Launch) (E : zE) (q : Nat → Nat) (z pa sl sv sp pd od : Int → Int) (pm ty om st wr : Int) (h0 : PD pd ty) (h1 : 0 ≤ ty ∧ ty ≤ 80) : zF l E yX4_readPad wsX4_readPad 4 90 [.ref (q 0)] (wM E q z pa sl sv sp pd od pm ty om st wr) ((rp pd ty od).1) (wM E q z pa sl sv sp pd ((rp pd ty od).2.2.2) pm ty ((rp pd ty od).2.2.1) ((rp pd ty od).2.1) ((rp pd ty od).1)) := by
  have hpd := h0
  refine zC_of (cc := cX4_readPad) (maxL := 2) (by decide) rfl (Nat.le_of_ble_eq_true rfl) ?_
  intro p e s m below meth c ls A hx hb hr hts hown hlocks hml hK hA hS hP hD hl
  have hown : s.vm.findClass RX4 = some m.cls := hown
  have hl : lv_has ls 2 [(0, .ref (q 0))] := hl
  have hinX4 : ∀ v ∈ u_ws RX4 TX4 12, v ∈ wsX4_readPad := by decide +kernel
  have hf_181 := hts (.fieldLink RX4 181 "GenerationNamesModel" "orderMany" "I") (by decide +kernel)
  have hf_165 := hts (.fieldLink RX4 165 "GenerationNamesModel" "spot" "I") (by decide +kernel)
  have hf_168 := hts (.fieldLink RX4 168 "GenerationNamesModel" "wrong" "I") (by decide +kernel)
  have hf_151 := hts (.fieldLink RX4 151 "GenerationNamesModel" "typed" "I") (by decide +kernel)
  refine lv_aload_n hx hb dX4_readPad_0 rfl (lv_at hl 0 rfl) ?_
  refine lv_iconst (v := iI 0) hx hb dX4_readPad_1 (by decide) ?_
  refine va_put (D := E.1) (cl := vwCl) (ci := 4) (v := .int (iI 0)) (ty := .int) (C := RX4) (T := TX4) (N := 12) hx hb hts hinX4 tyX4 tyX4_ok nmX4 hown hK hP hD hS 0 rfl rfl 9 (by decide) hf_181 (fun _ h => h) rfl (by decide +kernel) (rfl) (rfl) (Nat.le_of_ble_eq_true rfl) dX4_readPad_2 (fun H locs hP hD hS => ?_)
  have hP : va_P E.1 vwCl (wM E q z pa sl sv sp pd od pm ty 0 st wr) H := hP
  have hD : va_D A (wM E q z pa sl sv sp pd od pm ty 0 st wr) := hD
  refine lv_aload_n hx hb dX4_readPad_5 rfl (lv_at hl 0 rfl) ?_
  refine lv_iconst (v := iI 0) hx hb dX4_readPad_6 (by decide) ?_
  refine va_put (D := E.1) (cl := vwCl) (ci := 4) (v := .int (iI 0)) (ty := .int) (C := RX4) (T := TX4) (N := 12) hx hb hts hinX4 tyX4 tyX4_ok nmX4 hown hK hP hD hS 0 rfl rfl 10 (by decide) hf_165 (fun _ h => h) rfl (by decide +kernel) (rfl) (rfl) (Nat.le_of_ble_eq_true rfl) dX4_readPad_7 (fun H locs hP hD hS => ?_)
  have hP : va_P E.1 vwCl (wM E q z pa sl sv sp pd od pm ty 0 0 wr) H := hP
  have hD : va_D A (wM E q z pa sl sv sp pd od pm ty 0 0 wr) := hD
  refine lv_aload_n hx hb dX4_readPad_10 rfl (lv_at hl 0 rfl) ?_
  refine lv_bipush (v := iI (-6)) hx hb dX4_readPad_11 (by decide) ?_
  refine va_put (D := E.1) (cl := vwCl) (ci := 4) (v := .int (iI (-6))) (ty := .int) (C := RX4) (T := TX4) (N := 12) hx hb hts hinX4 tyX4 tyX4_ok nmX4 hown hK hP hD hS 0 rfl rfl 11 (by decide) hf_168 (fun _ h => h) rfl (by decide +kernel) (rfl) (rfl) (Nat.le_of_ble_eq_true rfl) dX4_readPad_13 (fun H locs hP hD hS => ?_)
  have hP : va_P E.1 vwCl (wM E q z pa sl sv sp pd od pm ty 0 0 (-6)) H := hP
  have hD : va_D A (wM E q z pa sl sv sp pd od pm ty 0 0 (-6)) := hD
  refine lv_iconst (v := iI 1) hx hb dX4_readPad_16 (by decide) ?_
  refine lv_istore_n (lv' := [(1, .int (iI 1)), (0, .ref (q 0))]) hx hb dX4_readPad_17 rfl hl (by decide) rfl (fun ls hl => ?_)
  have hloop18 : ∀ (n : Nat) (d1 : Int → Int) (m1 : Int) (s1 : Int) (w1 : Int) (b1 : Int) (hmu : 1000 - s1 + b1 = (n : Int)) (hi18_0 : b1 = 1 → w1 = -6 ∧ s1 ≤ ty ∧ 2 * m1 ≤ s1 ∧ ∃ k : Nat, 81 - s1 ≤ k ∧ rpN pd ty k s1 m1 d1 = rp pd ty od) (hi18_1 : b1 = 0 → rp pd ty od = (w1, s1, m1, d1)) (hi18_2 : b1 = 0 ∨ b1 = 1) (hi18_3 : 0 ≤ s1 ∧ s1 ≤ 300) (hi18_4 : -6 ≤ w1 ∧ w1 ≤ 1000) (hi18_5 : 0 ≤ m1 ∧ m1 ≤ 100) (H : Heap) (locs : List Loc) (ls : Array Slot), va_P E.1 vwCl (wM E q z pa sl sv sp pd d1 pm ty m1 s1 w1) H → va_D A (wM E q z pa sl sv sp pd d1 pm ty m1 s1 w1) → va_S A s.heap H locs → lv_has ls 2 [(1, .int (iI b1)), (0, .ref (q 0))] → W p l e (zR 4 90) s m ([.ref (q 0)] : List Value).toArray below meth c H locs 0 0 (MQ below (zQ E A (S := Unit) (fun x _ => x = ((rp pd ty od).1)) (fun _ => wM E q z pa sl sv sp pd ((rp pd ty od).2.2.2) pm ty ((rp pd ty od).2.2.1) ((rp pd ty od).2.1) ((rp pd ty od).1))) ([.ref (q 0)] : List Value).toArray s 0 0 A) (F0 m 18 ls []) := by
    intro n
    induction n using Nat.strongRecOn with
    | ind n ih18 =>
      intro d1 m1 s1 w1 b1 hmu18 hi18_0 hi18_1 hi18_2 hi18_3 hi18_4 hi18_5 H locs ls hP hD hS hl
      refine lv_iload_n hx hb dX4_readPad_18 rfl (lv_at hl 0 rfl) ?_
      refine z_if_eq (tgt := 92) hx hb dX4_readPad_19 (by decide) ⟨by first | omega | exact (hz _ _ (by omega)).1 | exact (hz _ _ (by omega)).2, by first | omega | exact (hz _ _ (by omega)).1 | exact (hz _ _ (by omega)).2⟩ (fun c_19 => ?_) (fun c_19 => ?_)
      · have hfin := hi18_1 (by omega)
        refine lv_aload_n hx hb dX4_readPad_92 rfl (lv_at hl 1 rfl) ?_
        refine va_get (D := E.1) (cl := vwCl) (ci := 4) (v := .int (iI w1)) (C := RX4) (T := TX4) (N := 12) hx hb hts hinX4 hown hK hP 0 rfl rfl 11 (by decide) hf_168 (fun _ h => h) rfl dX4_readPad_93 ?_
        have eqc_od : ((rp pd ty od).2.2.2) = d1 := by rw [hfin]
        have eqc_om : ((rp pd ty od).2.2.1) = m1 := by rw [hfin]
        have eqc_st : ((rp pd ty od).2.1) = s1 := by rw [hfin]
        have eqc_wr : ((rp pd ty od).1) = w1 := by rw [hfin]
        have hP : va_P E.1 vwCl (wM E q z pa sl sv sp pd ((rp pd ty od).2.2.2) pm ty ((rp pd ty od).2.2.1) ((rp pd ty od).2.1) ((rp pd ty od).1)) H := by rw [eqc_od, eqc_om, eqc_st, eqc_wr]; exact hP
        have hD : va_D A (wM E q z pa sl sv sp pd ((rp pd ty od).2.2.2) pm ty ((rp pd ty od).2.2.1) ((rp pd ty od).2.1) ((rp pd ty od).1)) := by rw [eqc_od, eqc_om, eqc_st, eqc_wr]; exact hD
        exact z_iret hx hb hr hlocks hK hS () (by rw [hfin]) hP hD dX4_readPad_96
      · obtain ⟨hwe, hi1, hi2, k, hk1, hk2⟩ := hi18_0 (by omega)
        rw [hwe] at hP hD
        obtain ⟨k, rfl⟩ : ∃ j : Nat, k = j + 1 := ⟨k - 1, by omega⟩
        have hro := ro_rg (pd := pd) (ty := ty) (wr := -6) (st := s1) (by omega) (by omega)
        have hgt := roS_gt (pd := pd) (ty := ty) (st := s1) (by omega)
        have hlt := Lt_rg (st := roS pd ty (-6) s1) hpd (by omega)
        refine lv_aload_n hx hb dX4_readPad_22 rfl (lv_at hl 1 rfl) ?_
        refine z_callVv0 (ci := 4) (qk := 0) (As := []) (rest := []) hx hb hml hown hts hK hA hl.1 hP hD hS (c_X4_readOrder l E q z pa sl sv sp pd d1 pm ty m1 s1 (-6)   (by first | omega | exact hpd | exact ⟨by omega, by omega⟩ | exact zb_01) (by first | omega | exact hpd | exact ⟨by omega, by omega⟩ | exact zb_01) (by first | omega | exact hpd | exact ⟨by omega, by omega⟩ | exact zb_01) (by first | omega | exact hpd | exact ⟨by omega, by omega⟩ | exact zb_01) (by first | omega | exact hpd | exact ⟨by omega, by omega⟩ | exact zb_01)) gX4_readPad_X4_readOrder rfl ndX4_readOrder ⟨Nat.le_of_ble_eq_true rfl, Nat.le_of_ble_eq_true rfl⟩ rfl rfl rfl rfl rfl (Nat.le_of_ble_eq_true rfl) dX4_readPad_23 ⟨Nat.le_of_ble_eq_true rfl, Nat.le_of_ble_eq_true rfl⟩ (fun u H locs hpost hP hD hS => ?_)
        have hP : va_P E.1 vwCl (wM E q z pa sl sv sp pd (roD pd ty (-6) s1 d1 m1) pm ty (m1 + 1) (roS pd ty (-6) s1) (roW pd ty (-6) s1)) H := hP
        have hD : va_D A (wM E q z pa sl sv sp pd (roD pd ty (-6) s1 d1 m1) pm ty (m1 + 1) (roS pd ty (-6) s1) (roW pd ty (-6) s1)) := hD
        refine lv_aload_n hx hb dX4_readPad_26 rfl (lv_at hl 1 rfl) ?_
        refine va_get (D := E.1) (cl := vwCl) (ci := 4) (v := .int (iI (roW pd ty (-6) s1))) (C := RX4) (T := TX4) (N := 12) hx hb hts hinX4 hown hK hP 0 rfl rfl 11 (by decide) hf_168 (fun _ h => h) rfl dX4_readPad_27 ?_
        refine lv_bipush (v := iI (-6)) hx hb dX4_readPad_30 (by decide) ?_
        refine z_icmp_ne (tgt := 50) hx hb dX4_readPad_32 (by decide) ⟨by first | omega | exact (hz _ _ (by omega)).1 | exact (hz _ _ (by omega)).2, by first | omega | exact (hz _ _ (by omega)).1 | exact (hz _ _ (by omega)).2⟩ ⟨by first | omega | exact (hz _ _ (by omega)).1 | exact (hz _ _ (by omega)).2, by first | omega | exact (hz _ _ (by omega)).1 | exact (hz _ _ (by omega)).2⟩ (fun c_32 => ?_) (fun c_32 => ?_)
        · refine lv_iconst (v := iI 0) hx hb dX4_readPad_50 (by decide) ?_
          refine lv_istore_n (lv' := [(1, .int (iI 0)), (0, .ref (q 0))]) hx hb dX4_readPad_51 rfl hl (by decide) rfl (fun ls hl => ?_)
          refine lv_iload_n hx hb dX4_readPad_52 rfl (lv_at hl 0 rfl) ?_
          refine z_if_eq (tgt := 18) hx hb dX4_readPad_53 (by decide) ⟨by first | omega | exact (hz _ _ (by omega)).1 | exact (hz _ _ (by omega)).2, by first | omega | exact (hz _ _ (by omega)).1 | exact (hz _ _ (by omega)).2⟩ (fun c_53 => ?_) (fun c_53 => absurd c_53 (by omega))
          exact ih18 (1000 - (roS pd ty (-6) s1) + 0 : Int).toNat (by omega) (roD pd ty (-6) s1 d1 m1) (m1 + 1) (roS pd ty (-6) s1) (roW pd ty (-6) s1) 0 (by omega) (by first | exact (fun h => absurd h (by omega)) | exact (fun _ => ⟨rfl, by omega, by omega, k, by omega, by rw [← hk2, rpN_c k (by omega) c_63]⟩)) (by first | exact (fun h => absurd h (by omega)) | exact (fun _ => by rw [← hk2, rpN_a k (by omega)]) | exact (fun _ => by rw [← hk2, rpN_b k (by omega) c_63])) (by omega) (by omega) (by omega) (by omega) _ _ ls hP hD hS (lv_sub hl [0, 1] rfl)
        · refine lv_aload_n hx hb dX4_readPad_35 rfl (lv_at hl 1 rfl) ?_
          refine va_get (D := E.1) (cl := vwCl) (ci := 4) (v := .int (iI (roS pd ty (-6) s1))) (C := RX4) (T := TX4) (N := 12) hx hb hts hinX4 hown hK hP 0 rfl rfl 10 (by decide) hf_165 (fun _ h => h) rfl dX4_readPad_36 ?_
          refine lv_aload_n hx hb dX4_readPad_39 rfl (lv_at hl 1 rfl) ?_
          refine va_get (D := E.1) (cl := vwCl) (ci := 4) (v := .int (iI ty)) (C := RX4) (T := TX4) (N := 12) hx hb hts hinX4 hown hK hP 0 rfl rfl 7 (by decide) hf_151 (fun _ h => h) rfl dX4_readPad_40 ?_
          refine z_icmp_ge (tgt := 50) hx hb dX4_readPad_43 (by decide) ⟨by first | omega | exact (hz _ _ (by omega)).1 | exact (hz _ _ (by omega)).2, by first | omega | exact (hz _ _ (by omega)).1 | exact (hz _ _ (by omega)).2⟩ ⟨by first | omega | exact (hz _ _ (by omega)).1 | exact (hz _ _ (by omega)).2, by first | omega | exact (hz _ _ (by omega)).1 | exact (hz _ _ (by omega)).2⟩ (fun c_43 => ?_) (fun c_43 => ?_)
          · refine lv_iconst (v := iI 0) hx hb dX4_readPad_50 (by decide) ?_
            refine lv_istore_n (lv' := [(1, .int (iI 0)), (0, .ref (q 0))]) hx hb dX4_readPad_51 rfl hl (by decide) rfl (fun ls hl => ?_)
            refine lv_iload_n hx hb dX4_readPad_52 rfl (lv_at hl 0 rfl) ?_
            refine z_if_eq (tgt := 18) hx hb dX4_readPad_53 (by decide) ⟨by first | omega | exact (hz _ _ (by omega)).1 | exact (hz _ _ (by omega)).2, by first | omega | exact (hz _ _ (by omega)).1 | exact (hz _ _ (by omega)).2⟩ (fun c_53 => ?_) (fun c_53 => absurd c_53 (by omega))
            exact ih18 (1000 - (roS pd ty (-6) s1) + 0 : Int).toNat (by omega) (roD pd ty (-6) s1 d1 m1) (m1 + 1) (roS pd ty (-6) s1) (roW pd ty (-6) s1) 0 (by omega) (by first | exact (fun h => absurd h (by omega)) | exact (fun _ => ⟨rfl, by omega, by omega, k, by omega, by rw [← hk2, rpN_c k (by omega) c_63]⟩)) (by first | exact (fun h => absurd h (by omega)) | exact (fun _ => by rw [← hk2, rpN_a k (by omega)]) | exact (fun _ => by rw [← hk2, rpN_b k (by omega) c_63])) (by omega) (by omega) (by omega) (by omega) _ _ ls hP hD hS (lv_sub hl [0, 1] rfl)
          · refine lv_iconst (v := iI 1) hx hb dX4_readPad_46 (by decide) ?_
            refine lv_goto (tgt := 51) hx hb dX4_readPad_47 (by decide) ?_
            refine lv_istore_n (lv' := [(1, .int (iI 1)), (0, .ref (q 0))]) hx hb dX4_readPad_51 rfl hl (by decide) rfl (fun ls hl => ?_)
            refine lv_iload_n hx hb dX4_readPad_52 rfl (lv_at hl 0 rfl) ?_
            refine z_if_eq (tgt := 18) hx hb dX4_readPad_53 (by decide) ⟨by first | omega | exact (hz _ _ (by omega)).1 | exact (hz _ _ (by omega)).2, by first | omega | exact (hz _ _ (by omega)).1 | exact (hz _ _ (by omega)).2⟩ (fun c_53 => absurd c_53 (by omega)) (fun c_53 => ?_)
            refine lv_aload_n hx hb dX4_readPad_56 rfl (lv_at hl 1 rfl) ?_
            refine lv_aload_n hx hb dX4_readPad_57 rfl (lv_at hl 1 rfl) ?_
            refine z_callV0 (ci := 4) (qk := 0) (As := []) (rest := [.ref (q 0)]) hx hb hml hown hts hK hA hl.1 hP hD hS (c_X4_letter l E q z pa sl sv sp pd (roD pd ty (-6) s1 d1 m1) pm ty (m1 + 1) (roS pd ty (-6) s1) (roW pd ty (-6) s1)   (by first | omega | exact hpd | exact ⟨by omega, by omega⟩ | exact zb_01) (by first | omega | exact hpd | exact ⟨by omega, by omega⟩ | exact zb_01) (by first | omega | exact hpd | exact ⟨by omega, by omega⟩ | exact zb_01)) gX4_readPad_X4_letter rfl ndX4_letter ⟨Nat.le_of_ble_eq_true rfl, Nat.le_of_ble_eq_true rfl⟩ rfl rfl rfl rfl rfl (Nat.le_of_ble_eq_true rfl) dX4_readPad_58 ⟨Nat.le_of_ble_eq_true rfl, Nat.le_of_ble_eq_true rfl⟩ (fun x u H locs hpost hP hD hS => ?_)
            subst hpost
            have hP : va_P E.1 vwCl (wM E q z pa sl sv sp pd (roD pd ty (-6) s1 d1 m1) pm ty (m1 + 1) (roS pd ty (-6) s1) (roW pd ty (-6) s1)) H := hP
            have hD : va_D A (wM E q z pa sl sv sp pd (roD pd ty (-6) s1 d1 m1) pm ty (m1 + 1) (roS pd ty (-6) s1) (roW pd ty (-6) s1)) := hD
            refine lv_bipush (v := iI 59) hx hb dX4_readPad_61 (by decide) ?_
            refine z_icmp_ne (tgt := 70) hx hb dX4_readPad_63 (by decide) ⟨by first | omega | exact (hz _ _ (by omega)).1 | exact (hz _ _ (by omega)).2, by first | omega | exact (hz _ _ (by omega)).1 | exact (hz _ _ (by omega)).2⟩ ⟨by first | omega | exact (hz _ _ (by omega)).1 | exact (hz _ _ (by omega)).2, by first | omega | exact (hz _ _ (by omega)).1 | exact (hz _ _ (by omega)).2⟩ (fun c_63 => ?_) (fun c_63 => ?_)
            · refine lv_iconst (v := iI 0) hx hb dX4_readPad_70 (by decide) ?_
              refine z_callVv0 (ci := 4) (qk := 0) (As := [.int (iI 0)]) (rest := []) hx hb hml hown hts hK hA hl.1 hP hD hS (c_X4_wants l E q z pa sl sv sp pd (roD pd ty (-6) s1 d1 m1) pm ty (m1 + 1) (roS pd ty (-6) s1) (roW pd ty (-6) s1) 0  (by first | omega | exact hpd | exact ⟨by omega, by omega⟩ | exact zb_01) (by first | omega | exact hpd | exact ⟨by omega, by omega⟩ | exact zb_01) (by first | omega | exact hpd | exact ⟨by omega, by omega⟩ | exact zb_01)) gX4_readPad_X4_wants rfl ndX4_wants ⟨Nat.le_of_ble_eq_true rfl, Nat.le_of_ble_eq_true rfl⟩ rfl rfl rfl rfl rfl (Nat.le_of_ble_eq_true rfl) dX4_readPad_71 ⟨Nat.le_of_ble_eq_true rfl, Nat.le_of_ble_eq_true rfl⟩ (fun u H locs hpost hP hD hS => ?_)
              have hP : va_P E.1 vwCl (wM E q z pa sl sv sp pd (roD pd ty (-6) s1 d1 m1) pm ty (m1 + 1) (wS (roW pd ty (-6) s1) (roS pd ty (-6) s1)) (wW 0 (roW pd ty (-6) s1) (roS pd ty (-6) s1))) H := hP
              have hD : va_D A (wM E q z pa sl sv sp pd (roD pd ty (-6) s1 d1 m1) pm ty (m1 + 1) (wS (roW pd ty (-6) s1) (roS pd ty (-6) s1)) (wW 0 (roW pd ty (-6) s1) (roS pd ty (-6) s1))) := hD
              have hs2 : (wS (roW pd ty (-6) s1) (roS pd ty (-6) s1)) = roS pd ty (-6) s1 + 1 := by rw [c_32]; rfl
              have hw2 : (wW 0 (roW pd ty (-6) s1) (roS pd ty (-6) s1)) = (if Lt pd ty (roS pd ty (-6) s1) = 59 then -6 else roS pd ty (-6) s1) := by rw [c_32]; first | (rw [if_pos c_63]; rfl) | (rw [if_neg c_63]; rfl)
              rw [hw2, hs2] at hP hD
              first | rw [if_pos c_63] at hP hD | rw [if_neg c_63] at hP hD
              refine lv_aload_n hx hb dX4_readPad_74 rfl (lv_at hl 1 rfl) ?_
              refine va_get (D := E.1) (cl := vwCl) (ci := 4) (v := .int (iI (roS pd ty (-6) s1))) (C := RX4) (T := TX4) (N := 12) hx hb hts hinX4 hown hK hP 0 rfl rfl 11 (by decide) hf_168 (fun _ h => h) rfl dX4_readPad_75 ?_
              refine lv_bipush (v := iI (-6)) hx hb dX4_readPad_78 (by decide) ?_
              refine z_icmp_ne (tgt := 87) hx hb dX4_readPad_80 (by decide) ⟨by first | omega | exact (hz _ _ (by omega)).1 | exact (hz _ _ (by omega)).2, by first | omega | exact (hz _ _ (by omega)).1 | exact (hz _ _ (by omega)).2⟩ ⟨by first | omega | exact (hz _ _ (by omega)).1 | exact (hz _ _ (by omega)).2, by first | omega | exact (hz _ _ (by omega)).1 | exact (hz _ _ (by omega)).2⟩ (fun c_80 => ?_) (fun c_80 => absurd c_80 (by omega))
              refine lv_iconst (v := iI 0) hx hb dX4_readPad_87 (by decide) ?_
              refine lv_istore_n (lv' := [(1, .int (iI 0)), (0, .ref (q 0))]) hx hb dX4_readPad_88 rfl hl (by decide) rfl (fun ls hl => ?_)
              refine lv_goto (tgt := 18) hx hb dX4_readPad_89 (by decide) ?_
              exact ih18 (1000 - (roS pd ty (-6) s1 + 1) + 0 : Int).toNat (by omega) (roD pd ty (-6) s1 d1 m1) (m1 + 1) (roS pd ty (-6) s1 + 1) (roS pd ty (-6) s1) 0 (by omega) (by first | exact (fun h => absurd h (by omega)) | exact (fun _ => ⟨rfl, by omega, by omega, k, by omega, by rw [← hk2, rpN_c k (by omega) c_63]⟩)) (by first | exact (fun h => absurd h (by omega)) | exact (fun _ => by rw [← hk2, rpN_a k (by omega)]) | exact (fun _ => by rw [← hk2, rpN_b k (by omega) c_63])) (by omega) (by omega) (by omega) (by omega) _ _ ls hP hD hS (lv_sub hl [0, 1] rfl)
            · refine lv_iconst (v := iI 1) hx hb dX4_readPad_66 (by decide) ?_
              refine lv_goto (tgt := 71) hx hb dX4_readPad_67 (by decide) ?_
              refine z_callVv0 (ci := 4) (qk := 0) (As := [.int (iI 1)]) (rest := []) hx hb hml hown hts hK hA hl.1 hP hD hS (c_X4_wants l E q z pa sl sv sp pd (roD pd ty (-6) s1 d1 m1) pm ty (m1 + 1) (roS pd ty (-6) s1) (roW pd ty (-6) s1) 1  (by first | omega | exact hpd | exact ⟨by omega, by omega⟩ | exact zb_01) (by first | omega | exact hpd | exact ⟨by omega, by omega⟩ | exact zb_01) (by first | omega | exact hpd | exact ⟨by omega, by omega⟩ | exact zb_01)) gX4_readPad_X4_wants rfl ndX4_wants ⟨Nat.le_of_ble_eq_true rfl, Nat.le_of_ble_eq_true rfl⟩ rfl rfl rfl rfl rfl (Nat.le_of_ble_eq_true rfl) dX4_readPad_71 ⟨Nat.le_of_ble_eq_true rfl, Nat.le_of_ble_eq_true rfl⟩ (fun u H locs hpost hP hD hS => ?_)
              have hP : va_P E.1 vwCl (wM E q z pa sl sv sp pd (roD pd ty (-6) s1 d1 m1) pm ty (m1 + 1) (wS (roW pd ty (-6) s1) (roS pd ty (-6) s1)) (wW 1 (roW pd ty (-6) s1) (roS pd ty (-6) s1))) H := hP
              have hD : va_D A (wM E q z pa sl sv sp pd (roD pd ty (-6) s1 d1 m1) pm ty (m1 + 1) (wS (roW pd ty (-6) s1) (roS pd ty (-6) s1)) (wW 1 (roW pd ty (-6) s1) (roS pd ty (-6) s1))) := hD
              have hs2 : (wS (roW pd ty (-6) s1) (roS pd ty (-6) s1)) = roS pd ty (-6) s1 + 1 := by rw [c_32]; rfl
              have hw2 : (wW 1 (roW pd ty (-6) s1) (roS pd ty (-6) s1)) = (if Lt pd ty (roS pd ty (-6) s1) = 59 then -6 else roS pd ty (-6) s1) := by rw [c_32]; first | (rw [if_pos c_63]; rfl) | (rw [if_neg c_63]; rfl)
              rw [hw2, hs2] at hP hD
              first | rw [if_pos c_63] at hP hD | rw [if_neg c_63] at hP hD
              refine lv_aload_n hx hb dX4_readPad_74 rfl (lv_at hl 1 rfl) ?_
              refine va_get (D := E.1) (cl := vwCl) (ci := 4) (v := .int (iI (-6))) (C := RX4) (T := TX4) (N := 12) hx hb hts hinX4 hown hK hP 0 rfl rfl 11 (by decide) hf_168 (fun _ h => h) rfl dX4_readPad_75 ?_
              refine lv_bipush (v := iI (-6)) hx hb dX4_readPad_78 (by decide) ?_
              refine z_icmp_ne (tgt := 87) hx hb dX4_readPad_80 (by decide) ⟨by first | omega | exact (hz _ _ (by omega)).1 | exact (hz _ _ (by omega)).2, by first | omega | exact (hz _ _ (by omega)).1 | exact (hz _ _ (by omega)).2⟩ ⟨by first | omega | exact (hz _ _ (by omega)).1 | exact (hz _ _ (by omega)).2, by first | omega | exact (hz _ _ (by omega)).1 | exact (hz _ _ (by omega)).2⟩ (fun c_80 => absurd c_80 (by omega)) (fun c_80 => ?_)
              refine lv_iconst (v := iI 1) hx hb dX4_readPad_83 (by decide) ?_
              refine lv_goto (tgt := 88) hx hb dX4_readPad_84 (by decide) ?_
              refine lv_istore_n (lv' := [(1, .int (iI 1)), (0, .ref (q 0))]) hx hb dX4_readPad_88 rfl hl (by decide) rfl (fun ls hl => ?_)
              refine lv_goto (tgt := 18) hx hb dX4_readPad_89 (by decide) ?_
              exact ih18 (1000 - (roS pd ty (-6) s1 + 1) + 1 : Int).toNat (by omega) (roD pd ty (-6) s1 d1 m1) (m1 + 1) (roS pd ty (-6) s1 + 1) (-6) 1 (by omega) (by first | exact (fun h => absurd h (by omega)) | exact (fun _ => ⟨rfl, by omega, by omega, k, by omega, by rw [← hk2, rpN_c k (by omega) c_63]⟩)) (by first | exact (fun h => absurd h (by omega)) | exact (fun _ => by rw [← hk2, rpN_a k (by omega)]) | exact (fun _ => by rw [← hk2, rpN_b k (by omega) c_63])) (by omega) (by omega) (by omega) (by omega) _ _ ls hP hD hS (lv_sub hl [0, 1] rfl)
  exact hloop18 (1000 - 0 + 1 : Int).toNat od 0 0 (-6) 1 (by omega) (fun _ => ⟨rfl, by omega, by omega, 81, by omega, rfl⟩) (fun h => absurd h (by omega)) (by omega) (by omega) (by omega) (by omega) _ _ ls hP hD hS (lv_sub hl [0, 1] rfl)
