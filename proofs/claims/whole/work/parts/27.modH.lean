theorem ndX4_letter : yX4_letter.cls = RX4 ∧ yX4_letter.cls ≠ "java/lang/invoke/MethodHandle" ∧ yX4_letter.cls ≠ "java/lang/invoke/VarHandle" ∧ (parseMethodDescriptor yX4_letter.desc).map (fun d => d.parameters.length) = some 0 := by decide +kernel
set_option maxRecDepth 100000 in
set_option maxHeartbeats 400000 in
theorem c_X4_letter (l : Launch) (E : zE) (q : Nat → Nat) (z pa sl sv sp pd od : Int → Int) (pm ty om st wr : Int) (h0 : PD pd ty) (h1 : 0 ≤ st ∧ st ≤ 100000) (h2 : 0 ≤ ty ∧ ty ≤ 80) : zF l E yX4_letter wsX4_letter 0 0 [.ref (q 0)] (wM E q z pa sl sv sp pd od pm ty om st wr) (Lt pd ty st) (wM E q z pa sl sv sp pd od pm ty om st wr) := by
  have hpd := h0
  refine zC_of (cc := cX4_letter) (maxL := 1) (by decide) rfl (Nat.le_of_ble_eq_true rfl) ?_
  intro p e s m below meth c ls A hx hb hr hts hown hlocks hml hK hA hS hP hD hl
  have hown : s.vm.findClass RX4 = some m.cls := hown
  have hl : lv_has ls 1 [(0, .ref (q 0))] := hl
  have hinX4 : ∀ v ∈ u_ws RX4 TX4 12, v ∈ wsX4_letter := by decide +kernel
  have hf_165 := hts (.fieldLink RX4 165 "GenerationNamesModel" "spot" "I") (by decide +kernel)
  have hf_151 := hts (.fieldLink RX4 151 "GenerationNamesModel" "typed" "I") (by decide +kernel)
  have hf_26 := hts (.fieldLink RX4 26 "GenerationNamesModel" "pad" "[C") (by decide +kernel)
  refine lv_aload_n hx hb dX4_letter_0 rfl (lv_at hl 0 rfl) ?_
  refine va_get (D := E.1) (cl := vwCl) (ci := 4) (v := .int (iI st)) (C := RX4) (T := TX4) (N := 12) hx hb hts hinX4 hown hK hP 0 rfl rfl 10 (by decide) hf_165 (fun _ h => h) rfl dX4_letter_1 ?_
  refine lv_aload_n hx hb dX4_letter_4 rfl (lv_at hl 0 rfl) ?_
  refine va_get (D := E.1) (cl := vwCl) (ci := 4) (v := .int (iI ty)) (C := RX4) (T := TX4) (N := 12) hx hb hts hinX4 hown hK hP 0 rfl rfl 7 (by decide) hf_151 (fun _ h => h) rfl dX4_letter_5 ?_
  refine z_icmp_ge (tgt := 23) hx hb dX4_letter_8 (by decide) ⟨by first | omega | exact (hz _ _ (by omega)).1 | exact (hz _ _ (by omega)).2, by first | omega | exact (hz _ _ (by omega)).1 | exact (hz _ _ (by omega)).2⟩ ⟨by first | omega | exact (hz _ _ (by omega)).1 | exact (hz _ _ (by omega)).2, by first | omega | exact (hz _ _ (by omega)).1 | exact (hz _ _ (by omega)).2⟩ (fun c_8 => ?_) (fun c_8 => ?_)
  · refine lv_bipush (v := iI (-6)) hx hb dX4_letter_23 (by decide) ?_
    exact z_iret hx hb hr hlocks hK hS () (by unfold Lt; (first | rw [if_pos (by omega)] | rw [if_neg (by omega)])) hP hD dX4_letter_25
  · refine lv_aload_n hx hb dX4_letter_11 rfl (lv_at hl 0 rfl) ?_
    refine va_get (D := E.1) (cl := vwCl) (ci := 4) (v := .ref (q 6)) (C := RX4) (T := TX4) (N := 12) hx hb hts hinX4 hown hK hP 0 rfl rfl 6 (by decide) hf_26 (fun _ h => h) rfl dX4_letter_12 ?_
    refine lv_aload_n hx hb dX4_letter_15 rfl (lv_at hl 0 rfl) ?_
    refine va_get (D := E.1) (cl := vwCl) (ci := 4) (v := .int (iI st)) (C := RX4) (T := TX4) (N := 12) hx hb hts hinX4 hown hK hP 0 rfl rfl 10 (by decide) hf_165 (fun _ h => h) rfl dX4_letter_16 ?_
    refine z_cald (D := E.1) (cl := vwCl) (tys := zT E) (f := pd) hx hb hK hP 6 2 rfl rfl (by omega) (by omega) (by omega) dX4_letter_19 ?_
    refine lv_goto (tgt := 25) hx hb dX4_letter_20 (by decide) ?_
    exact z_iret hx hb hr hlocks hK hS () (by unfold Lt; (first | rw [if_pos (by omega)] | rw [if_neg (by omega)])) hP hD dX4_letter_25

theorem ndX4_wants : yX4_wants.cls = RX4 ∧ yX4_wants.cls ≠ "java/lang/invoke/MethodHandle" ∧ yX4_wants.cls ≠ "java/lang/invoke/VarHandle" ∧ (parseMethodDescriptor yX4_wants.desc).map (fun d => d.parameters.length) = some 1 := by decide +kernel
set_option maxRecDepth 100000 in
set_option maxHeartbeats 400000 in
theorem c_X4_wants (l : Launch) (E : zE) (q : Nat → Nat) (z pa sl sv sp pd od : Int → Int) (pm ty om st wr : Int) (b : Int) (h0 : b = 0 ∨ b = 1) (h1 : -6 ≤ wr ∧ wr ≤ 100000) (h2 : 0 ≤ st ∧ st ≤ 100000) : zFv l E yX4_wants wsX4_wants 0 0 [.ref (q 0), .int (iI b)] (wM E q z pa sl sv sp pd od pm ty om st wr) (wM E q z pa sl sv sp pd od pm ty om (wS wr st) (wW b wr st)) := by
  refine zCv_of (cc := cX4_wants) (maxL := 2) (by decide) rfl (Nat.le_of_ble_eq_true rfl) ?_
  intro p e s m below meth c ls A hx hb hr hts hown hlocks hml hK hA hS hP hD hl
  have hown : s.vm.findClass RX4 = some m.cls := hown
  have hl : lv_has ls 2 [(0, .ref (q 0)), (1, .int (iI b))] := hl
  have hinX4 : ∀ v ∈ u_ws RX4 TX4 12, v ∈ wsX4_wants := by decide +kernel
  have hf_168 := hts (.fieldLink RX4 168 "GenerationNamesModel" "wrong" "I") (by decide +kernel)
  have hf_165 := hts (.fieldLink RX4 165 "GenerationNamesModel" "spot" "I") (by decide +kernel)
  refine lv_aload_n hx hb dX4_wants_0 rfl (lv_at hl 0 rfl) ?_
  refine va_get (D := E.1) (cl := vwCl) (ci := 4) (v := .int (iI wr)) (C := RX4) (T := TX4) (N := 12) hx hb hts hinX4 hown hK hP 0 rfl rfl 11 (by decide) hf_168 (fun _ h => h) rfl dX4_wants_1 ?_
  refine lv_bipush (v := iI (-6)) hx hb dX4_wants_4 (by decide) ?_
  refine z_icmp_ne (tgt := 36) hx hb dX4_wants_6 (by decide) ⟨by first | omega | exact (hz _).1 | exact (hz _).2, by first | omega | exact (hz _).1 | exact (hz _).2⟩ ⟨by first | omega | exact (hz _).1 | exact (hz _).2, by first | omega | exact (hz _).1 | exact (hz _).2⟩ (fun c_6 => ?_) (fun c_6 => ?_)
  · have eqc_st : (wS wr st) = st := by unfold wS; (first | rw [if_pos (by omega)] | rw [if_neg (by omega)])
    have eqc_wr : (wW b wr st) = wr := by unfold wW; (first | rw [if_pos (by omega)] | rw [if_neg (by omega)]); all_goals (first | omega | rfl)
    have hP : va_P E.1 vwCl (wM E q z pa sl sv sp pd od pm ty om (wS wr st) (wW b wr st)) s.heap := by rw [eqc_st, eqc_wr]; exact hP
    have hD : va_D A (wM E q z pa sl sv sp pd od pm ty om (wS wr st) (wW b wr st)) := by rw [eqc_st, eqc_wr]; exact hD
    exact z_vret hx hb hr hlocks hK hS () (by first | rfl | trivial | exact zb_t' (by omega) | exact zb_f' (by omega) | omega) hP hD dX4_wants_36
  · refine lv_aload_n hx hb dX4_wants_9 rfl (lv_at hl 0 rfl) ?_
    refine lv_iload_n hx hb dX4_wants_10 rfl (lv_at hl 1 rfl) ?_
    refine z_if_eq (tgt := 19) hx hb dX4_wants_11 (by decide) ⟨by first | omega | exact (hz _).1 | exact (hz _).2, by first | omega | exact (hz _).1 | exact (hz _).2⟩ (fun c_11 => ?_) (fun c_11 => ?_)
    · refine lv_aload_n hx hb dX4_wants_19 rfl (lv_at hl 0 rfl) ?_
      refine va_get (D := E.1) (cl := vwCl) (ci := 4) (v := .int (iI st)) (C := RX4) (T := TX4) (N := 12) hx hb hts hinX4 hown hK hP 0 rfl rfl 10 (by decide) hf_165 (fun _ h => h) rfl dX4_wants_20 ?_
      refine va_put (D := E.1) (cl := vwCl) (ci := 4) (v := .int (iI st)) (ty := .int) (C := RX4) (T := TX4) (N := 12) hx hb hts hinX4 tyX4 tyX4_ok nmX4 hown hK hP hD hS 0 rfl rfl 11 (by decide) hf_168 (fun _ h => h) rfl (by decide +kernel) (rfl) (rfl) (Nat.le_of_ble_eq_true rfl) dX4_wants_23 (fun H locs hP hD hS => ?_)
      have hP : va_P E.1 vwCl (wM E q z pa sl sv sp pd od pm ty om st st) H := hP
      have hD : va_D A (wM E q z pa sl sv sp pd od pm ty om st st) := hD
      refine lv_aload_n hx hb dX4_wants_26 rfl (lv_at hl 0 rfl) ?_
      refine lv_dup hx hb dX4_wants_27 rfl ?_
      refine va_get (D := E.1) (cl := vwCl) (ci := 4) (v := .int (iI st)) (C := RX4) (T := TX4) (N := 12) hx hb hts hinX4 hown hK hP 0 rfl rfl 10 (by decide) hf_165 (fun _ h => h) rfl dX4_wants_28 ?_
      refine lv_iconst (v := iI 1) hx hb dX4_wants_31 (by decide) ?_
      refine z_iadd hx hb dX4_wants_32 ?_
      refine va_put (D := E.1) (cl := vwCl) (ci := 4) (v := .int (iI (st + 1))) (ty := .int) (C := RX4) (T := TX4) (N := 12) hx hb hts hinX4 tyX4 tyX4_ok nmX4 hown hK hP hD hS 0 rfl rfl 10 (by decide) hf_165 (fun _ h => h) rfl (by decide +kernel) (rfl) (rfl) (Nat.le_of_ble_eq_true rfl) dX4_wants_33 (fun H locs hP hD hS => ?_)
      have hP : va_P E.1 vwCl (wM E q z pa sl sv sp pd od pm ty om (st + 1) st) H := hP
      have hD : va_D A (wM E q z pa sl sv sp pd od pm ty om (st + 1) st) := hD
      have eqc_st : (wS wr st) = (st + 1) := by unfold wS; (first | rw [if_pos (by omega)] | rw [if_neg (by omega)])
      have eqc_wr : (wW b wr st) = st := by unfold wW; (first | rw [if_pos (by omega)] | rw [if_neg (by omega)]); all_goals (first | omega | rfl)
      have hP : va_P E.1 vwCl (wM E q z pa sl sv sp pd od pm ty om (wS wr st) (wW b wr st)) H := by rw [eqc_st, eqc_wr]; exact hP
      have hD : va_D A (wM E q z pa sl sv sp pd od pm ty om (wS wr st) (wW b wr st)) := by rw [eqc_st, eqc_wr]; exact hD
      exact z_vret hx hb hr hlocks hK hS () (by first | rfl | trivial | exact zb_t' (by omega) | exact zb_f' (by omega) | omega) hP hD dX4_wants_36
    · refine lv_bipush (v := iI (-6)) hx hb dX4_wants_14 (by decide) ?_
      refine lv_goto (tgt := 23) hx hb dX4_wants_16 (by decide) ?_
      refine va_put (D := E.1) (cl := vwCl) (ci := 4) (v := .int (iI (-6))) (ty := .int) (C := RX4) (T := TX4) (N := 12) hx hb hts hinX4 tyX4 tyX4_ok nmX4 hown hK hP hD hS 0 rfl rfl 11 (by decide) hf_168 (fun _ h => h) rfl (by decide +kernel) (rfl) (rfl) (Nat.le_of_ble_eq_true rfl) dX4_wants_23 (fun H locs hP hD hS => ?_)
      have hP : va_P E.1 vwCl (wM E q z pa sl sv sp pd od pm ty om st (-6)) H := hP
      have hD : va_D A (wM E q z pa sl sv sp pd od pm ty om st (-6)) := hD
      refine lv_aload_n hx hb dX4_wants_26 rfl (lv_at hl 0 rfl) ?_
      refine lv_dup hx hb dX4_wants_27 rfl ?_
      refine va_get (D := E.1) (cl := vwCl) (ci := 4) (v := .int (iI st)) (C := RX4) (T := TX4) (N := 12) hx hb hts hinX4 hown hK hP 0 rfl rfl 10 (by decide) hf_165 (fun _ h => h) rfl dX4_wants_28 ?_
      refine lv_iconst (v := iI 1) hx hb dX4_wants_31 (by decide) ?_
      refine z_iadd hx hb dX4_wants_32 ?_
      refine va_put (D := E.1) (cl := vwCl) (ci := 4) (v := .int (iI (st + 1))) (ty := .int) (C := RX4) (T := TX4) (N := 12) hx hb hts hinX4 tyX4 tyX4_ok nmX4 hown hK hP hD hS 0 rfl rfl 10 (by decide) hf_165 (fun _ h => h) rfl (by decide +kernel) (rfl) (rfl) (Nat.le_of_ble_eq_true rfl) dX4_wants_33 (fun H locs hP hD hS => ?_)
      have hP : va_P E.1 vwCl (wM E q z pa sl sv sp pd od pm ty om (st + 1) (-6)) H := hP
      have hD : va_D A (wM E q z pa sl sv sp pd od pm ty om (st + 1) (-6)) := hD
      have eqc_st : (wS wr st) = (st + 1) := by unfold wS; (first | rw [if_pos (by omega)] | rw [if_neg (by omega)])
      have eqc_wr : (wW b wr st) = (-6) := by unfold wW; (first | rw [if_pos (by omega)] | rw [if_neg (by omega)]); all_goals (first | omega | rfl)
      have hP : va_P E.1 vwCl (wM E q z pa sl sv sp pd od pm ty om (wS wr st) (wW b wr st)) H := by rw [eqc_st, eqc_wr]; exact hP
      have hD : va_D A (wM E q z pa sl sv sp pd od pm ty om (wS wr st) (wW b wr st)) := by rw [eqc_st, eqc_wr]; exact hD
      exact z_vret hx hb hr hlocks hK hS () (by first | rfl | trivial | exact zb_t' (by omega) | exact zb_f' (by omega) | omega) hP hD dX4_wants_36

theorem ndX4_digit : yX4_digit.cls = RX4 ∧ yX4_digit.cls ≠ "java/lang/invoke/MethodHandle" ∧ yX4_digit.cls ≠ "java/lang/invoke/VarHandle" ∧ (parseMethodDescriptor yX4_digit.desc).map (fun d => d.parameters.length) = some 2 := by decide +kernel
set_option maxRecDepth 100000 in
set_option maxHeartbeats 400000 in
theorem c_X4_digit (l : Launch) (E : zE) (q : Nat → Nat) (z pa sl sv sp pd od : Int → Int) (pm ty om st wr : Int) (lo : Int) (hi : Int) (h0 : PD pd ty) (h1 : 0 ≤ st ∧ st ≤ 100000) (h2 : 0 ≤ ty ∧ ty ≤ 80) (h3 : -6 ≤ wr ∧ wr ≤ 100000) (h4 : rg lo) (h5 : rg hi) : zF l E yX4_digit wsX4_digit 1 22 [.ref (q 0), .int (iI lo), .int (iI hi)] (wM E q z pa sl sv sp pd od pm ty om st wr) (Lt pd ty st - 48) (wM E q z pa sl sv sp pd od pm ty om (wS wr st) (dW lo hi (Lt pd ty st) wr st)) := by
  have hpd := h0
  have hlt := Lt_rg (st := st) hpd h1.1
  refine zC_of (cc := cX4_digit) (maxL := 4) (by decide) rfl (Nat.le_of_ble_eq_true rfl) ?_
  intro p e s m below meth c ls A hx hb hr hts hown hlocks hml hK hA hS hP hD hl
  have hown : s.vm.findClass RX4 = some m.cls := hown
  have hl : lv_has ls 4 [(0, .ref (q 0)), (1, .int (iI lo)), (2, .int (iI hi))] := hl
  refine lv_aload_n hx hb dX4_digit_0 rfl (lv_at hl 0 rfl) ?_
  refine z_callV0 (ci := 4) (qk := 0) (As := []) (rest := []) hx hb hml hown hts hK hA hl.1 hP hD hS (c_X4_letter l E q z pa sl sv sp pd od pm ty om st wr   (by first | omega | exact hpd | exact ⟨by omega, by omega⟩ | exact zb_01) (by first | omega | exact hpd | exact ⟨by omega, by omega⟩ | exact zb_01) (by first | omega | exact hpd | exact ⟨by omega, by omega⟩ | exact zb_01)) gX4_digit_X4_letter rfl ndX4_letter ⟨Nat.le_of_ble_eq_true rfl, Nat.le_of_ble_eq_true rfl⟩ rfl rfl rfl rfl rfl (Nat.le_of_ble_eq_true rfl) dX4_digit_1 ⟨Nat.le_of_ble_eq_true rfl, Nat.le_of_ble_eq_true rfl⟩ (fun x u H locs hpost hP hD hS => ?_)
  subst hpost
  have hP : va_P E.1 vwCl (wM E q z pa sl sv sp pd od pm ty om st wr) H := hP
  have hD : va_D A (wM E q z pa sl sv sp pd od pm ty om st wr) := hD
  refine lv_bipush (v := iI 48) hx hb dX4_digit_4 (by decide) ?_
  refine z_isub hx hb dX4_digit_6 ?_
  refine lv_istore_n (lv' := [(3, .int (iI ((Lt pd ty st) - 48))), (0, .ref (q 0)), (1, .int (iI lo)), (2, .int (iI hi))]) hx hb dX4_digit_7 rfl hl (by decide) rfl (fun ls hl => ?_)
  refine lv_aload_n hx hb dX4_digit_8 rfl (lv_at hl 1 rfl) ?_
  refine lv_iload_n hx hb dX4_digit_9 rfl (lv_at hl 0 rfl) ?_
  refine lv_iload_n hx hb dX4_digit_10 rfl (lv_at hl 2 rfl) ?_
  refine lv_iload_n hx hb dX4_digit_11 rfl (lv_at hl 3 rfl) ?_
  refine z_callS0 (As := [.int (iI ((Lt pd ty st) - 48)), .int (iI lo), .int (iI hi)]) (rest := [.ref (q 0)]) hx hb hml hown hts hK hA hl.1 hP hD hS (c_X4_in l E  ((Lt pd ty st) - 48) lo hi  (by first | omega | exact hpd | exact ⟨by omega, by omega⟩ | exact zb_01) (by first | omega | exact hpd | exact ⟨by omega, by omega⟩ | exact zb_01) (by first | omega | exact hpd | exact ⟨by omega, by omega⟩ | exact zb_01)) gX4_digit_X4_in rfl ndX4_in ⟨Nat.le_of_ble_eq_true rfl, Nat.le_of_ble_eq_true rfl⟩ rfl rfl (Nat.le_of_ble_eq_true rfl) dX4_digit_12 ⟨Nat.le_of_ble_eq_true rfl, Nat.le_of_ble_eq_true rfl⟩ (fun x H locs hpost hP hD hS => ?_)
  subst hpost
  refine z_callVv0 (ci := 4) (qk := 0) (As := [.int (iI (zb (lo ≤ ((Lt pd ty st) - 48) ∧ ((Lt pd ty st) - 48) ≤ hi)))]) (rest := []) hx hb hml hown hts hK hA hl.1 hP hD hS (c_X4_wants l E q z pa sl sv sp pd od pm ty om st wr (zb (lo ≤ ((Lt pd ty st) - 48) ∧ ((Lt pd ty st) - 48) ≤ hi))  (by first | omega | exact hpd | exact ⟨by omega, by omega⟩ | exact zb_01) (by first | omega | exact hpd | exact ⟨by omega, by omega⟩ | exact zb_01) (by first | omega | exact hpd | exact ⟨by omega, by omega⟩ | exact zb_01)) gX4_digit_X4_wants rfl ndX4_wants ⟨Nat.le_of_ble_eq_true rfl, Nat.le_of_ble_eq_true rfl⟩ rfl rfl rfl rfl rfl (Nat.le_of_ble_eq_true rfl) dX4_digit_15 ⟨Nat.le_of_ble_eq_true rfl, Nat.le_of_ble_eq_true rfl⟩ (fun u H locs hpost hP hD hS => ?_)
  have hP : va_P E.1 vwCl (wM E q z pa sl sv sp pd od pm ty om (wS wr st) (wW (zb (lo ≤ ((Lt pd ty st) - 48) ∧ ((Lt pd ty st) - 48) ≤ hi)) wr st)) H := hP
  have hD : va_D A (wM E q z pa sl sv sp pd od pm ty om (wS wr st) (wW (zb (lo ≤ ((Lt pd ty st) - 48) ∧ ((Lt pd ty st) - 48) ≤ hi)) wr st)) := hD
  refine lv_iload_n hx hb dX4_digit_18 rfl (lv_at hl 0 rfl) ?_
  exact z_iret hx hb hr hlocks hK hS () (by first | rfl | trivial | exact zb_t' (by omega) | exact zb_f' (by omega) | omega) hP hD dX4_digit_19

theorem ndX4_number : yX4_number.cls = RX4 ∧ yX4_number.cls ≠ "java/lang/invoke/MethodHandle" ∧ yX4_number.cls ≠ "java/lang/invoke/VarHandle" ∧ (parseMethodDescriptor yX4_number.desc).map (fun d => d.parameters.length) = some 0 := by decide +kernel
set_option maxRecDepth 100000 in
set_option maxHeartbeats 400000 in
theorem c_X4_number (l : Launch) (E : zE) (q : Nat → Nat) (z pa sl sv sp pd od : Int → Int) (pm ty om st wr : Int) (h0 : PD pd ty) (h1 : 0 ≤ st ∧ st ≤ 1000) (h2 : 0 ≤ ty ∧ ty ≤ 80) (h3 : -6 ≤ wr ∧ wr ≤ 1000) : zF l E yX4_number wsX4_number 2 45 [.ref (q 0)] (wM E q z pa sl sv sp pd od pm ty om st wr) ((nR pd ty wr st).1) (wM E q z pa sl sv sp pd od pm ty om ((nR pd ty wr st).2) (dW 0 9 (Lt pd ty st) wr st)) := by
  have hpd := h0
  have hlt := Lt_rg (st := st) hpd h1.1
  have hws := wS_rg wr st
  have hww : -6 ≤ dW 0 9 (Lt pd ty st) wr st ∧ dW 0 9 (Lt pd ty st) wr st ≤ 1000 := wW_rg h3 h1
  refine zC_of (cc := cX4_number) (maxL := 3) (by decide) rfl (Nat.le_of_ble_eq_true rfl) ?_
  intro p e s m below meth c ls A hx hb hr hts hown hlocks hml hK hA hS hP hD hl
  have hown : s.vm.findClass RX4 = some m.cls := hown
  have hl : lv_has ls 3 [(0, .ref (q 0))] := hl
  have hinX4 : ∀ v ∈ u_ws RX4 TX4 12, v ∈ wsX4_number := by decide +kernel
  have hf_168 := hts (.fieldLink RX4 168 "GenerationNamesModel" "wrong" "I") (by decide +kernel)
  have hf_165 := hts (.fieldLink RX4 165 "GenerationNamesModel" "spot" "I") (by decide +kernel)
  refine lv_aload_n hx hb dX4_number_0 rfl (lv_at hl 0 rfl) ?_
  refine lv_iconst (v := iI 0) hx hb dX4_number_1 (by decide) ?_
  refine lv_bipush (v := iI 9) hx hb dX4_number_2 (by decide) ?_
  refine z_callV0 (ci := 4) (qk := 0) (As := [.int (iI 0), .int (iI 9)]) (rest := []) hx hb hml hown hts hK hA hl.1 hP hD hS (c_X4_digit l E q z pa sl sv sp pd od pm ty om st wr 0 9  (by first | omega | exact hpd | exact ⟨by omega, by omega⟩ | exact zb_01) (by first | omega | exact hpd | exact ⟨by omega, by omega⟩ | exact zb_01) (by first | omega | exact hpd | exact ⟨by omega, by omega⟩ | exact zb_01) (by first | omega | exact hpd | exact ⟨by omega, by omega⟩ | exact zb_01) (by first | omega | exact hpd | exact ⟨by omega, by omega⟩ | exact zb_01) (by first | omega | exact hpd | exact ⟨by omega, by omega⟩ | exact zb_01)) gX4_number_X4_digit rfl ndX4_digit ⟨Nat.le_of_ble_eq_true rfl, Nat.le_of_ble_eq_true rfl⟩ rfl rfl rfl rfl rfl (Nat.le_of_ble_eq_true rfl) dX4_number_4 ⟨Nat.le_of_ble_eq_true rfl, Nat.le_of_ble_eq_true rfl⟩ (fun x u H locs hpost hP hD hS => ?_)
  subst hpost
  have hP : va_P E.1 vwCl (wM E q z pa sl sv sp pd od pm ty om (wS wr st) (dW 0 9 (Lt pd ty st) wr st)) H := hP
  have hD : va_D A (wM E q z pa sl sv sp pd od pm ty om (wS wr st) (dW 0 9 (Lt pd ty st) wr st)) := hD
  refine lv_istore_n (lv' := [(1, .int (iI (Lt pd ty st - 48))), (0, .ref (q 0))]) hx hb dX4_number_7 rfl hl (by decide) rfl (fun ls hl => ?_)
  refine lv_aload_n hx hb dX4_number_8 rfl (lv_at hl 1 rfl) ?_
  refine z_callV0 (ci := 4) (qk := 0) (As := []) (rest := []) hx hb hml hown hts hK hA hl.1 hP hD hS (c_X4_letter l E q z pa sl sv sp pd od pm ty om (wS wr st) (dW 0 9 (Lt pd ty st) wr st)   (by first | omega | exact hpd | exact ⟨by omega, by omega⟩ | exact zb_01) (by first | omega | exact hpd | exact ⟨by omega, by omega⟩ | exact zb_01) (by first | omega | exact hpd | exact ⟨by omega, by omega⟩ | exact zb_01)) gX4_number_X4_letter rfl ndX4_letter ⟨Nat.le_of_ble_eq_true rfl, Nat.le_of_ble_eq_true rfl⟩ rfl rfl rfl rfl rfl (Nat.le_of_ble_eq_true rfl) dX4_number_9 ⟨Nat.le_of_ble_eq_true rfl, Nat.le_of_ble_eq_true rfl⟩ (fun x u H locs hpost hP hD hS => ?_)
  subst hpost
  have hP : va_P E.1 vwCl (wM E q z pa sl sv sp pd od pm ty om (wS wr st) (dW 0 9 (Lt pd ty st) wr st)) H := hP
  have hD : va_D A (wM E q z pa sl sv sp pd od pm ty om (wS wr st) (dW 0 9 (Lt pd ty st) wr st)) := hD
  refine lv_bipush (v := iI 48) hx hb dX4_number_12 (by decide) ?_
  refine z_isub hx hb dX4_number_14 ?_
  refine lv_istore_n (lv' := [(2, .int (iI ((Lt pd ty (wS wr st)) - 48))), (1, .int (iI (Lt pd ty st - 48))), (0, .ref (q 0))]) hx hb dX4_number_15 rfl hl (by decide) rfl (fun ls hl => ?_)
  have hloop16 : ∀ (n : Nat) (st1 : Int) (v1 : Int) (c1 : Int) (hmu : 10000 - v1 = (n : Int)) (hi16_0 : dW 0 9 (Lt pd ty st) wr st = -6 → ∃ k : Nat, nN pd ty k v1 st1 = nR pd ty wr st ∧ (v1 ≤ 0 ∨ (k = 3 ∧ 1 ≤ v1) ∨ (k = 2 ∧ 10 ≤ v1) ∨ (k = 1 ∧ 100 ≤ v1) ∨ (k = 0 ∧ 1000 ≤ v1))) (hi16_1 : ¬ dW 0 9 (Lt pd ty st) wr st = -6 → nR pd ty wr st = (v1, st1)) (hi16_2 : -1000 ≤ v1 ∧ v1 ≤ 9999) (hi16_3 : c1 = Lt pd ty st1 - 48) (hi16_4 : 0 ≤ st1 ∧ st1 ≤ 2000 + v1) (H : Heap) (locs : List Loc) (ls : Array Slot), va_P E.1 vwCl (wM E q z pa sl sv sp pd od pm ty om st1 (dW 0 9 (Lt pd ty st) wr st)) H → va_D A (wM E q z pa sl sv sp pd od pm ty om st1 (dW 0 9 (Lt pd ty st) wr st)) → va_S A s.heap H locs → lv_has ls 3 [(2, .int (iI c1)), (1, .int (iI v1)), (0, .ref (q 0))] → W p l e (zR 2 45) s m ([.ref (q 0)] : List Value).toArray below meth c H locs 0 0 (MQ below (zQ E A (S := Unit) (fun x _ => x = ((nR pd ty wr st).1)) (fun _ => wM E q z pa sl sv sp pd od pm ty om ((nR pd ty wr st).2) (dW 0 9 (Lt pd ty st) wr st))) ([.ref (q 0)] : List Value).toArray s 0 0 A) (F0 m 16 ls []) := by
    intro n
    induction n using Nat.strongRecOn with
    | ind n ih16 =>
      intro st1 v1 c1 hmu16 hi16_0 hi16_1 hi16_2 hi16_3 hi16_4 H locs ls hP hD hS hl
      have hl1 := Lt_rg (st := st1) hpd (by omega)
      refine lv_aload_n hx hb dX4_number_16 rfl (lv_at hl 2 rfl) ?_
      refine va_get (D := E.1) (cl := vwCl) (ci := 4) (v := .int (iI (dW 0 9 (Lt pd ty st) wr st))) (C := RX4) (T := TX4) (N := 12) hx hb hts hinX4 hown hK hP 0 rfl rfl 11 (by decide) hf_168 (fun _ h => h) rfl dX4_number_17 ?_
      refine lv_bipush (v := iI (-6)) hx hb dX4_number_20 (by decide) ?_
      refine z_icmp_ne (tgt := 79) hx hb dX4_number_22 (by decide) ⟨by first | omega | exact (hz _ _ (by omega)).1 | exact (hz _ _ (by omega)).2, by first | omega | exact (hz _ _ (by omega)).1 | exact (hz _ _ (by omega)).2⟩ ⟨by first | omega | exact (hz _ _ (by omega)).1 | exact (hz _ _ (by omega)).2, by first | omega | exact (hz _ _ (by omega)).1 | exact (hz _ _ (by omega)).2⟩ (fun c_22 => ?_) (fun c_22 => ?_)
      · have hfin : nR pd ty wr st = (v1, st1) := by first | exact hi16_1 c_22 | (obtain ⟨k, hk1, hk2⟩ := hi16_0 c_22; rw [← hk1]; exact nN_stop (by omega) k)
        refine lv_iload_n hx hb dX4_number_79 rfl (lv_at hl 1 rfl) ?_
        have eqc_st : ((nR pd ty wr st).2) = st1 := by rw [hfin]
        have hP : va_P E.1 vwCl (wM E q z pa sl sv sp pd od pm ty om ((nR pd ty wr st).2) (dW 0 9 (Lt pd ty st) wr st)) H := by rw [eqc_st]; exact hP
        have hD : va_D A (wM E q z pa sl sv sp pd od pm ty om ((nR pd ty wr st).2) (dW 0 9 (Lt pd ty st) wr st)) := by rw [eqc_st]; exact hD
        exact z_iret hx hb hr hlocks hK hS () (by rw [hfin]) hP hD dX4_number_80
      · refine lv_iload_n hx hb dX4_number_25 rfl (lv_at hl 1 rfl) ?_
        refine z_if_le (tgt := 79) hx hb dX4_number_26 (by decide) ⟨by first | omega | exact (hz _ _ (by omega)).1 | exact (hz _ _ (by omega)).2, by first | omega | exact (hz _ _ (by omega)).1 | exact (hz _ _ (by omega)).2⟩ (fun c_26 => ?_) (fun c_26 => ?_)
        · have hfin : nR pd ty wr st = (v1, st1) := by first | exact hi16_1 c_22 | (obtain ⟨k, hk1, hk2⟩ := hi16_0 c_22; rw [← hk1]; exact nN_stop (by omega) k)
          refine lv_iload_n hx hb dX4_number_79 rfl (lv_at hl 1 rfl) ?_
          have eqc_st : ((nR pd ty wr st).2) = st1 := by rw [hfin]
          have hP : va_P E.1 vwCl (wM E q z pa sl sv sp pd od pm ty om ((nR pd ty wr st).2) (dW 0 9 (Lt pd ty st) wr st)) H := by rw [eqc_st]; exact hP
          have hD : va_D A (wM E q z pa sl sv sp pd od pm ty om ((nR pd ty wr st).2) (dW 0 9 (Lt pd ty st) wr st)) := by rw [eqc_st]; exact hD
          exact z_iret hx hb hr hlocks hK hS () (by rw [hfin]) hP hD dX4_number_80
        · refine lv_iload_n hx hb dX4_number_29 rfl (lv_at hl 0 rfl) ?_
          refine lv_iconst (v := iI 0) hx hb dX4_number_30 (by decide) ?_
          refine lv_bipush (v := iI 9) hx hb dX4_number_31 (by decide) ?_
          refine z_callS0 (As := [.int (iI c1), .int (iI 0), .int (iI 9)]) (rest := []) hx hb hml hown hts hK hA hl.1 hP hD hS (c_X4_in l E  c1 0 9  (by first | omega | exact hpd | exact ⟨by omega, by omega⟩ | exact zb_01) (by first | omega | exact hpd | exact ⟨by omega, by omega⟩ | exact zb_01) (by first | omega | exact hpd | exact ⟨by omega, by omega⟩ | exact zb_01)) gX4_number_X4_in rfl ndX4_in ⟨Nat.le_of_ble_eq_true rfl, Nat.le_of_ble_eq_true rfl⟩ rfl rfl (Nat.le_of_ble_eq_true rfl) dX4_number_33 ⟨Nat.le_of_ble_eq_true rfl, Nat.le_of_ble_eq_true rfl⟩ (fun x H locs hpost hP hD hS => ?_)
          subst hpost
          refine z_ifb_eq (tgt := 79) hx hb dX4_number_36 (by decide) (fun c_36 => ?_) (fun c_36 => ?_)
          · have hfin : nR pd ty wr st = (v1, st1) := by first | exact hi16_1 c_22 | (obtain ⟨k, hk1, hk2⟩ := hi16_0 c_22; rw [← hk1]; exact nN_stop (by omega) k)
            refine lv_iload_n hx hb dX4_number_79 rfl (lv_at hl 1 rfl) ?_
            have eqc_st : ((nR pd ty wr st).2) = st1 := by rw [hfin]
            have hP : va_P E.1 vwCl (wM E q z pa sl sv sp pd od pm ty om ((nR pd ty wr st).2) (dW 0 9 (Lt pd ty st) wr st)) H := by rw [eqc_st]; exact hP
            have hD : va_D A (wM E q z pa sl sv sp pd od pm ty om ((nR pd ty wr st).2) (dW 0 9 (Lt pd ty st) wr st)) := by rw [eqc_st]; exact hD
            exact z_iret hx hb hr hlocks hK hS () (by rw [hfin]) hP hD dX4_number_80
          · refine lv_bipush (v := iI 10) hx hb dX4_number_39 (by decide) ?_
            refine lv_iload_n hx hb dX4_number_41 rfl (lv_at hl 1 rfl) ?_
            refine z_imul hx hb dX4_number_42 ?_
            refine lv_iload_n hx hb dX4_number_43 rfl (lv_at hl 0 rfl) ?_
            refine z_iadd hx hb dX4_number_44 ?_
            refine lv_sipush (v := iI 9999) hx hb dX4_number_45 (by decide) ?_
            refine z_icmp_gt (tgt := 79) hx hb dX4_number_48 (by decide) ⟨by first | omega | exact (hz _ _ (by omega)).1 | exact (hz _ _ (by omega)).2, by first | omega | exact (hz _ _ (by omega)).1 | exact (hz _ _ (by omega)).2⟩ ⟨by first | omega | exact (hz _ _ (by omega)).1 | exact (hz _ _ (by omega)).2, by first | omega | exact (hz _ _ (by omega)).1 | exact (hz _ _ (by omega)).2⟩ (fun c_48 => ?_) (fun c_48 => ?_)
            · have hfin : nR pd ty wr st = (v1, st1) := by first | exact hi16_1 c_22 | (obtain ⟨k, hk1, hk2⟩ := hi16_0 c_22; rw [← hk1]; exact nN_stop (by omega) k)
              refine lv_iload_n hx hb dX4_number_79 rfl (lv_at hl 1 rfl) ?_
              have eqc_st : ((nR pd ty wr st).2) = st1 := by rw [hfin]
              have hP : va_P E.1 vwCl (wM E q z pa sl sv sp pd od pm ty om ((nR pd ty wr st).2) (dW 0 9 (Lt pd ty st) wr st)) H := by rw [eqc_st]; exact hP
              have hD : va_D A (wM E q z pa sl sv sp pd od pm ty om ((nR pd ty wr st).2) (dW 0 9 (Lt pd ty st) wr st)) := by rw [eqc_st]; exact hD
              exact z_iret hx hb hr hlocks hK hS () (by rw [hfin]) hP hD dX4_number_80
            · refine lv_bipush (v := iI 10) hx hb dX4_number_51 (by decide) ?_
              refine lv_iload_n hx hb dX4_number_53 rfl (lv_at hl 1 rfl) ?_
              refine z_imul hx hb dX4_number_54 ?_
              refine lv_iload_n hx hb dX4_number_55 rfl (lv_at hl 0 rfl) ?_
              refine z_iadd hx hb dX4_number_56 ?_
              refine lv_istore_n (lv' := [(1, .int (iI ((10 * v1) + c1))), (2, .int (iI c1)), (0, .ref (q 0))]) hx hb dX4_number_57 rfl hl (by decide) rfl (fun ls hl => ?_)
              refine lv_aload_n hx hb dX4_number_58 rfl (lv_at hl 2 rfl) ?_
              refine lv_dup hx hb dX4_number_59 rfl ?_
              refine va_get (D := E.1) (cl := vwCl) (ci := 4) (v := .int (iI st1)) (C := RX4) (T := TX4) (N := 12) hx hb hts hinX4 hown hK hP 0 rfl rfl 10 (by decide) hf_165 (fun _ h => h) rfl dX4_number_60 ?_
              refine lv_iconst (v := iI 1) hx hb dX4_number_63 (by decide) ?_
              refine z_iadd hx hb dX4_number_64 ?_
              refine va_put (D := E.1) (cl := vwCl) (ci := 4) (v := .int (iI (st1 + 1))) (ty := .int) (C := RX4) (T := TX4) (N := 12) hx hb hts hinX4 tyX4 tyX4_ok nmX4 hown hK hP hD hS 0 rfl rfl 10 (by decide) hf_165 (fun _ h => h) rfl (by decide +kernel) (rfl) (rfl) (Nat.le_of_ble_eq_true rfl) dX4_number_65 (fun H locs hP hD hS => ?_)
              have hP : va_P E.1 vwCl (wM E q z pa sl sv sp pd od pm ty om (st1 + 1) (dW 0 9 (Lt pd ty st) wr st)) H := hP
              have hD : va_D A (wM E q z pa sl sv sp pd od pm ty om (st1 + 1) (dW 0 9 (Lt pd ty st) wr st)) := hD
              refine lv_aload_n hx hb dX4_number_68 rfl (lv_at hl 2 rfl) ?_
              refine z_callV0 (ci := 4) (qk := 0) (As := []) (rest := []) hx hb hml hown hts hK hA hl.1 hP hD hS (c_X4_letter l E q z pa sl sv sp pd od pm ty om (st1 + 1) (dW 0 9 (Lt pd ty st) wr st)   (by first | omega | exact hpd | exact ⟨by omega, by omega⟩ | exact zb_01) (by first | omega | exact hpd | exact ⟨by omega, by omega⟩ | exact zb_01) (by first | omega | exact hpd | exact ⟨by omega, by omega⟩ | exact zb_01)) gX4_number_X4_letter rfl ndX4_letter ⟨Nat.le_of_ble_eq_true rfl, Nat.le_of_ble_eq_true rfl⟩ rfl rfl rfl rfl rfl (Nat.le_of_ble_eq_true rfl) dX4_number_69 ⟨Nat.le_of_ble_eq_true rfl, Nat.le_of_ble_eq_true rfl⟩ (fun x u H locs hpost hP hD hS => ?_)
              subst hpost
              have hP : va_P E.1 vwCl (wM E q z pa sl sv sp pd od pm ty om (st1 + 1) (dW 0 9 (Lt pd ty st) wr st)) H := hP
              have hD : va_D A (wM E q z pa sl sv sp pd od pm ty om (st1 + 1) (dW 0 9 (Lt pd ty st) wr st)) := hD
              refine lv_bipush (v := iI 48) hx hb dX4_number_72 (by decide) ?_
              refine z_isub hx hb dX4_number_74 ?_
              refine lv_istore_n (lv' := [(2, .int (iI ((Lt pd ty (st1 + 1)) - 48))), (1, .int (iI ((10 * v1) + c1))), (0, .ref (q 0))]) hx hb dX4_number_75 rfl hl (by decide) rfl (fun ls hl => ?_)
              refine lv_goto (tgt := 16) hx hb dX4_number_76 (by decide) ?_
              obtain ⟨k, hk1, hk2⟩ := hi16_0 c_22
              have hl2 := Lt_rg (st := st1 + 1) hpd (by omega)
              exact ih16 (10000 - ((10 * v1) + c1) : Int).toNat (by omega) (st1 + 1) ((10 * v1) + c1) ((Lt pd ty (st1 + 1)) - 48) (by omega) (fun _ => by obtain ⟨k, rfl⟩ : ∃ j : Nat, k = j + 1 := ⟨k - 1, by omega⟩; exact ⟨k, by rw [← hk1, hi16_3]; exact (nN_step (by omega) k).symm, by omega⟩) (fun h => absurd c_22 h) (by omega) (rfl) (by omega) _ _ ls hP hD hS (lv_sub hl [0, 1, 2] rfl)
  exact hloop16 (10000 - (Lt pd ty st - 48) : Int).toNat (wS wr st) (Lt pd ty st - 48) ((Lt pd ty (wS wr st)) - 48) (by omega) (fun h => ⟨3, (if_pos h).symm, by omega⟩) (fun h => if_neg h) (by omega) (rfl) (by omega) _ _ ls hP hD hS (lv_sub hl [0, 1, 2] rfl)

theorem ndX4_name : yX4_name.cls = RX4 ∧ yX4_name.cls ≠ "java/lang/invoke/MethodHandle" ∧ yX4_name.cls ≠ "java/lang/invoke/VarHandle" ∧ (parseMethodDescriptor yX4_name.desc).map (fun d => d.parameters.length) = some 0 := by decide +kernel
set_option maxRecDepth 100000 in
set_option maxHeartbeats 400000 in
theorem c_X4_name (l : Launch) (E : zE) (q : Nat → Nat) (z pa sl sv sp pd od : Int → Int) (pm ty om st wr : Int) (h0 : PD pd ty) (h1 : 0 ≤ st ∧ st ≤ 1000) (h2 : 0 ≤ ty ∧ ty ≤ 80) (h3 : -6 ≤ wr ∧ wr ≤ 1000) : zF l E yX4_name wsX4_name 2 45 [.ref (q 0)] (wM E q z pa sl sv sp pd od pm ty om st wr) (naV pd ty wr st) (wM E q z pa sl sv sp pd od pm ty om (naS pd ty wr st) (naW pd ty wr st)) := by
  have hpd := h0
  have hlt := Lt_rg (st := st) hpd h1.1
  have hws := wS_rg wr st
  have hww : -6 ≤ naW1 pd ty wr st ∧ naW1 pd ty wr st ≤ 1000 := wW_rg (by omega) (by omega)
  refine zC_of (cc := cX4_name) (maxL := 2) (by decide) rfl (Nat.le_of_ble_eq_true rfl) ?_
  intro p e s m below meth c ls A hx hb hr hts hown hlocks hml hK hA hS hP hD hl
  have hown : s.vm.findClass RX4 = some m.cls := hown
  have hl : lv_has ls 2 [(0, .ref (q 0))] := hl
  refine lv_aload_n hx hb dX4_name_0 rfl (lv_at hl 0 rfl) ?_
  refine z_callV0 (ci := 4) (qk := 0) (As := []) (rest := []) hx hb hml hown hts hK hA hl.1 hP hD hS (c_X4_letter l E q z pa sl sv sp pd od pm ty om st wr   (by first | omega | exact hpd | exact ⟨by omega, by omega⟩ | exact zb_01) (by first | omega | exact hpd | exact ⟨by omega, by omega⟩ | exact zb_01) (by first | omega | exact hpd | exact ⟨by omega, by omega⟩ | exact zb_01)) gX4_name_X4_letter rfl ndX4_letter ⟨Nat.le_of_ble_eq_true rfl, Nat.le_of_ble_eq_true rfl⟩ rfl rfl rfl rfl rfl (Nat.le_of_ble_eq_true rfl) dX4_name_1 ⟨Nat.le_of_ble_eq_true rfl, Nat.le_of_ble_eq_true rfl⟩ (fun x u H locs hpost hP hD hS => ?_)
  subst hpost
  have hP : va_P E.1 vwCl (wM E q z pa sl sv sp pd od pm ty om st wr) H := hP
  have hD : va_D A (wM E q z pa sl sv sp pd od pm ty om st wr) := hD
  refine lv_istore_n (lv' := [(1, .int (iI (Lt pd ty st))), (0, .ref (q 0))]) hx hb dX4_name_4 rfl hl (by decide) rfl (fun ls hl => ?_)
  refine lv_aload_n hx hb dX4_name_5 rfl (lv_at hl 1 rfl) ?_
  refine lv_iload_n hx hb dX4_name_6 rfl (lv_at hl 0 rfl) ?_
  refine lv_bipush (v := iI 48) hx hb dX4_name_7 (by decide) ?_
  refine z_icmp_eq (tgt := 24) hx hb dX4_name_9 (by decide) ⟨by first | omega | exact (hz _ _ (by omega)).1 | exact (hz _ _ (by omega)).2, by first | omega | exact (hz _ _ (by omega)).1 | exact (hz _ _ (by omega)).2⟩ ⟨by first | omega | exact (hz _ _ (by omega)).1 | exact (hz _ _ (by omega)).2, by first | omega | exact (hz _ _ (by omega)).1 | exact (hz _ _ (by omega)).2⟩ (fun c_9 => ?_) (fun c_9 => ?_)
  · refine lv_iconst (v := iI 1) hx hb dX4_name_24 (by decide) ?_
    refine lv_goto (tgt := 29) hx hb dX4_name_25 (by decide) ?_
    refine z_callVv0 (ci := 4) (qk := 0) (As := [.int (iI 1)]) (rest := []) hx hb hml hown hts hK hA hl.1 hP hD hS (c_X4_wants l E q z pa sl sv sp pd od pm ty om st wr 1  (by first | omega | exact hpd | exact ⟨by omega, by omega⟩ | exact zb_01) (by first | omega | exact hpd | exact ⟨by omega, by omega⟩ | exact zb_01) (by first | omega | exact hpd | exact ⟨by omega, by omega⟩ | exact zb_01)) gX4_name_X4_wants rfl ndX4_wants ⟨Nat.le_of_ble_eq_true rfl, Nat.le_of_ble_eq_true rfl⟩ rfl rfl rfl rfl rfl (Nat.le_of_ble_eq_true rfl) dX4_name_29 ⟨Nat.le_of_ble_eq_true rfl, Nat.le_of_ble_eq_true rfl⟩ (fun u H locs hpost hP hD hS => ?_)
    have hP : va_P E.1 vwCl (wM E q z pa sl sv sp pd od pm ty om (wS wr st) (wW 1 wr st)) H := hP
    have hD : va_D A (wM E q z pa sl sv sp pd od pm ty om (wS wr st) (wW 1 wr st)) := hD
    have hw1 : naW1 pd ty wr st = (wW 1 wr st) := by unfold naW1; first | rw [zb_t (by omega)] | rw [zb_f (by omega)]
    rw [← hw1] at hP hD
    refine lv_iload_n hx hb dX4_name_32 rfl (lv_at hl 0 rfl) ?_
    refine lv_bipush (v := iI 43) hx hb dX4_name_33 (by decide) ?_
    refine z_icmp_ne (tgt := 42) hx hb dX4_name_35 (by decide) ⟨by first | omega | exact (hz _ _ (by omega)).1 | exact (hz _ _ (by omega)).2, by first | omega | exact (hz _ _ (by omega)).1 | exact (hz _ _ (by omega)).2⟩ ⟨by first | omega | exact (hz _ _ (by omega)).1 | exact (hz _ _ (by omega)).2, by first | omega | exact (hz _ _ (by omega)).1 | exact (hz _ _ (by omega)).2⟩ (fun c_35 => ?_) (fun c_35 => ?_)
    · refine lv_iload_n hx hb dX4_name_42 rfl (lv_at hl 0 rfl) ?_
      refine lv_bipush (v := iI 45) hx hb dX4_name_43 (by decide) ?_
      refine z_icmp_ne (tgt := 59) hx hb dX4_name_45 (by decide) ⟨by first | omega | exact (hz _ _ (by omega)).1 | exact (hz _ _ (by omega)).2, by first | omega | exact (hz _ _ (by omega)).1 | exact (hz _ _ (by omega)).2⟩ ⟨by first | omega | exact (hz _ _ (by omega)).1 | exact (hz _ _ (by omega)).2, by first | omega | exact (hz _ _ (by omega)).1 | exact (hz _ _ (by omega)).2⟩ (fun c_45 => ?_) (fun c_45 => ?_)
      · refine lv_iconst (v := iI 0) hx hb dX4_name_59 (by decide) ?_
        have eqc_st : (naS pd ty wr st) = wS wr st := by first | (exfalso; omega) | (unfold naS; (first | rw [if_pos (by omega)] | rw [if_neg (by omega)]))
        have eqc_wr : (naW pd ty wr st) = naW1 pd ty wr st := by first | (exfalso; omega) | (unfold naW; (first | rw [if_pos (by omega)] | rw [if_neg (by omega)]))
        have hP : va_P E.1 vwCl (wM E q z pa sl sv sp pd od pm ty om (naS pd ty wr st) (naW pd ty wr st)) H := by rw [eqc_st, eqc_wr]; exact hP
        have hD : va_D A (wM E q z pa sl sv sp pd od pm ty om (naS pd ty wr st) (naW pd ty wr st)) := by rw [eqc_st, eqc_wr]; exact hD
        exact z_iret hx hb hr hlocks hK hS () (by first | (exfalso; omega) | (unfold naV; (repeat (first | with_reducible rfl | rw [if_pos (by omega)] | rw [if_neg (by omega)])))) hP hD dX4_name_60
      · refine lv_aload_n hx hb dX4_name_48 rfl (lv_at hl 1 rfl) ?_
        refine lv_iconst (v := iI 1) hx hb dX4_name_49 (by decide) ?_
        refine lv_bipush (v := iI 7) hx hb dX4_name_50 (by decide) ?_
        refine z_callV0 (ci := 4) (qk := 0) (As := [.int (iI 1), .int (iI 7)]) (rest := []) hx hb hml hown hts hK hA hl.1 hP hD hS (c_X4_digit l E q z pa sl sv sp pd od pm ty om (wS wr st) (naW1 pd ty wr st) 1 7  (by first | omega | exact hpd | exact ⟨by omega, by omega⟩ | exact zb_01) (by first | omega | exact hpd | exact ⟨by omega, by omega⟩ | exact zb_01) (by first | omega | exact hpd | exact ⟨by omega, by omega⟩ | exact zb_01) (by first | omega | exact hpd | exact ⟨by omega, by omega⟩ | exact zb_01) (by first | omega | exact hpd | exact ⟨by omega, by omega⟩ | exact zb_01) (by first | omega | exact hpd | exact ⟨by omega, by omega⟩ | exact zb_01)) gX4_name_X4_digit rfl ndX4_digit ⟨Nat.le_of_ble_eq_true rfl, Nat.le_of_ble_eq_true rfl⟩ rfl rfl rfl rfl rfl (Nat.le_of_ble_eq_true rfl) dX4_name_52 ⟨Nat.le_of_ble_eq_true rfl, Nat.le_of_ble_eq_true rfl⟩ (fun x u H locs hpost hP hD hS => ?_)
        subst hpost
        have hP : va_P E.1 vwCl (wM E q z pa sl sv sp pd od pm ty om (wS (naW1 pd ty wr st) (wS wr st)) (dW 1 7 (Lt pd ty (wS wr st)) (naW1 pd ty wr st) (wS wr st))) H := hP
        have hD : va_D A (wM E q z pa sl sv sp pd od pm ty om (wS (naW1 pd ty wr st) (wS wr st)) (dW 1 7 (Lt pd ty (wS wr st)) (naW1 pd ty wr st) (wS wr st))) := hD
        refine z_ineg hx hb dX4_name_55 ?_
        refine lv_goto (tgt := 60) hx hb dX4_name_56 (by decide) ?_
        have eqc_st : (naS pd ty wr st) = wS (naW1 pd ty wr st) (wS wr st) := by first | (exfalso; omega) | (unfold naS; (first | rw [if_pos (by omega)] | rw [if_neg (by omega)]))
        have eqc_wr : (naW pd ty wr st) = dW 1 7 (Lt pd ty (wS wr st)) (naW1 pd ty wr st) (wS wr st) := by first | (exfalso; omega) | (unfold naW; (first | rw [if_pos (by omega)] | rw [if_neg (by omega)]))
        have hP : va_P E.1 vwCl (wM E q z pa sl sv sp pd od pm ty om (naS pd ty wr st) (naW pd ty wr st)) H := by rw [eqc_st, eqc_wr]; exact hP
        have hD : va_D A (wM E q z pa sl sv sp pd od pm ty om (naS pd ty wr st) (naW pd ty wr st)) := by rw [eqc_st, eqc_wr]; exact hD
        exact z_iret hx hb hr hlocks hK hS () (by first | (exfalso; omega) | (unfold naV; (repeat (first | with_reducible rfl | rw [if_pos (by omega)] | rw [if_neg (by omega)])))) hP hD dX4_name_60
    · refine lv_iconst (v := iI 1) hx hb dX4_name_38 (by decide) ?_
      refine lv_goto (tgt := 60) hx hb dX4_name_39 (by decide) ?_
      have eqc_st : (naS pd ty wr st) = wS wr st := by first | (exfalso; omega) | (unfold naS; (first | rw [if_pos (by omega)] | rw [if_neg (by omega)]))
      have eqc_wr : (naW pd ty wr st) = naW1 pd ty wr st := by first | (exfalso; omega) | (unfold naW; (first | rw [if_pos (by omega)] | rw [if_neg (by omega)]))
      have hP : va_P E.1 vwCl (wM E q z pa sl sv sp pd od pm ty om (naS pd ty wr st) (naW pd ty wr st)) H := by rw [eqc_st, eqc_wr]; exact hP
      have hD : va_D A (wM E q z pa sl sv sp pd od pm ty om (naS pd ty wr st) (naW pd ty wr st)) := by rw [eqc_st, eqc_wr]; exact hD
      exact z_iret hx hb hr hlocks hK hS () (by first | (exfalso; omega) | (unfold naV; (repeat (first | with_reducible rfl | rw [if_pos (by omega)] | rw [if_neg (by omega)])))) hP hD dX4_name_60
  · refine lv_iload_n hx hb dX4_name_12 rfl (lv_at hl 0 rfl) ?_
    refine lv_bipush (v := iI 45) hx hb dX4_name_13 (by decide) ?_
    refine z_icmp_eq (tgt := 24) hx hb dX4_name_15 (by decide) ⟨by first | omega | exact (hz _ _ (by omega)).1 | exact (hz _ _ (by omega)).2, by first | omega | exact (hz _ _ (by omega)).1 | exact (hz _ _ (by omega)).2⟩ ⟨by first | omega | exact (hz _ _ (by omega)).1 | exact (hz _ _ (by omega)).2, by first | omega | exact (hz _ _ (by omega)).1 | exact (hz _ _ (by omega)).2⟩ (fun c_15 => ?_) (fun c_15 => ?_)
    · refine lv_iconst (v := iI 1) hx hb dX4_name_24 (by decide) ?_
      refine lv_goto (tgt := 29) hx hb dX4_name_25 (by decide) ?_
      refine z_callVv0 (ci := 4) (qk := 0) (As := [.int (iI 1)]) (rest := []) hx hb hml hown hts hK hA hl.1 hP hD hS (c_X4_wants l E q z pa sl sv sp pd od pm ty om st wr 1  (by first | omega | exact hpd | exact ⟨by omega, by omega⟩ | exact zb_01) (by first | omega | exact hpd | exact ⟨by omega, by omega⟩ | exact zb_01) (by first | omega | exact hpd | exact ⟨by omega, by omega⟩ | exact zb_01)) gX4_name_X4_wants rfl ndX4_wants ⟨Nat.le_of_ble_eq_true rfl, Nat.le_of_ble_eq_true rfl⟩ rfl rfl rfl rfl rfl (Nat.le_of_ble_eq_true rfl) dX4_name_29 ⟨Nat.le_of_ble_eq_true rfl, Nat.le_of_ble_eq_true rfl⟩ (fun u H locs hpost hP hD hS => ?_)
      have hP : va_P E.1 vwCl (wM E q z pa sl sv sp pd od pm ty om (wS wr st) (wW 1 wr st)) H := hP
      have hD : va_D A (wM E q z pa sl sv sp pd od pm ty om (wS wr st) (wW 1 wr st)) := hD
      have hw1 : naW1 pd ty wr st = (wW 1 wr st) := by unfold naW1; first | rw [zb_t (by omega)] | rw [zb_f (by omega)]
      rw [← hw1] at hP hD
      refine lv_iload_n hx hb dX4_name_32 rfl (lv_at hl 0 rfl) ?_
      refine lv_bipush (v := iI 43) hx hb dX4_name_33 (by decide) ?_
      refine z_icmp_ne (tgt := 42) hx hb dX4_name_35 (by decide) ⟨by first | omega | exact (hz _ _ (by omega)).1 | exact (hz _ _ (by omega)).2, by first | omega | exact (hz _ _ (by omega)).1 | exact (hz _ _ (by omega)).2⟩ ⟨by first | omega | exact (hz _ _ (by omega)).1 | exact (hz _ _ (by omega)).2, by first | omega | exact (hz _ _ (by omega)).1 | exact (hz _ _ (by omega)).2⟩ (fun c_35 => ?_) (fun c_35 => ?_)
      · refine lv_iload_n hx hb dX4_name_42 rfl (lv_at hl 0 rfl) ?_
        refine lv_bipush (v := iI 45) hx hb dX4_name_43 (by decide) ?_
        refine z_icmp_ne (tgt := 59) hx hb dX4_name_45 (by decide) ⟨by first | omega | exact (hz _ _ (by omega)).1 | exact (hz _ _ (by omega)).2, by first | omega | exact (hz _ _ (by omega)).1 | exact (hz _ _ (by omega)).2⟩ ⟨by first | omega | exact (hz _ _ (by omega)).1 | exact (hz _ _ (by omega)).2, by first | omega | exact (hz _ _ (by omega)).1 | exact (hz _ _ (by omega)).2⟩ (fun c_45 => ?_) (fun c_45 => ?_)
        · refine lv_iconst (v := iI 0) hx hb dX4_name_59 (by decide) ?_
          have eqc_st : (naS pd ty wr st) = wS wr st := by first | (exfalso; omega) | (unfold naS; (first | rw [if_pos (by omega)] | rw [if_neg (by omega)]))
          have eqc_wr : (naW pd ty wr st) = naW1 pd ty wr st := by first | (exfalso; omega) | (unfold naW; (first | rw [if_pos (by omega)] | rw [if_neg (by omega)]))
          have hP : va_P E.1 vwCl (wM E q z pa sl sv sp pd od pm ty om (naS pd ty wr st) (naW pd ty wr st)) H := by rw [eqc_st, eqc_wr]; exact hP
          have hD : va_D A (wM E q z pa sl sv sp pd od pm ty om (naS pd ty wr st) (naW pd ty wr st)) := by rw [eqc_st, eqc_wr]; exact hD
          exact z_iret hx hb hr hlocks hK hS () (by first | (exfalso; omega) | (unfold naV; (repeat (first | with_reducible rfl | rw [if_pos (by omega)] | rw [if_neg (by omega)])))) hP hD dX4_name_60
        · refine lv_aload_n hx hb dX4_name_48 rfl (lv_at hl 1 rfl) ?_
          refine lv_iconst (v := iI 1) hx hb dX4_name_49 (by decide) ?_
          refine lv_bipush (v := iI 7) hx hb dX4_name_50 (by decide) ?_
          refine z_callV0 (ci := 4) (qk := 0) (As := [.int (iI 1), .int (iI 7)]) (rest := []) hx hb hml hown hts hK hA hl.1 hP hD hS (c_X4_digit l E q z pa sl sv sp pd od pm ty om (wS wr st) (naW1 pd ty wr st) 1 7  (by first | omega | exact hpd | exact ⟨by omega, by omega⟩ | exact zb_01) (by first | omega | exact hpd | exact ⟨by omega, by omega⟩ | exact zb_01) (by first | omega | exact hpd | exact ⟨by omega, by omega⟩ | exact zb_01) (by first | omega | exact hpd | exact ⟨by omega, by omega⟩ | exact zb_01) (by first | omega | exact hpd | exact ⟨by omega, by omega⟩ | exact zb_01) (by first | omega | exact hpd | exact ⟨by omega, by omega⟩ | exact zb_01)) gX4_name_X4_digit rfl ndX4_digit ⟨Nat.le_of_ble_eq_true rfl, Nat.le_of_ble_eq_true rfl⟩ rfl rfl rfl rfl rfl (Nat.le_of_ble_eq_true rfl) dX4_name_52 ⟨Nat.le_of_ble_eq_true rfl, Nat.le_of_ble_eq_true rfl⟩ (fun x u H locs hpost hP hD hS => ?_)
          subst hpost
          have hP : va_P E.1 vwCl (wM E q z pa sl sv sp pd od pm ty om (wS (naW1 pd ty wr st) (wS wr st)) (dW 1 7 (Lt pd ty (wS wr st)) (naW1 pd ty wr st) (wS wr st))) H := hP
          have hD : va_D A (wM E q z pa sl sv sp pd od pm ty om (wS (naW1 pd ty wr st) (wS wr st)) (dW 1 7 (Lt pd ty (wS wr st)) (naW1 pd ty wr st) (wS wr st))) := hD
          refine z_ineg hx hb dX4_name_55 ?_
          refine lv_goto (tgt := 60) hx hb dX4_name_56 (by decide) ?_
          have eqc_st : (naS pd ty wr st) = wS (naW1 pd ty wr st) (wS wr st) := by first | (exfalso; omega) | (unfold naS; (first | rw [if_pos (by omega)] | rw [if_neg (by omega)]))
          have eqc_wr : (naW pd ty wr st) = dW 1 7 (Lt pd ty (wS wr st)) (naW1 pd ty wr st) (wS wr st) := by first | (exfalso; omega) | (unfold naW; (first | rw [if_pos (by omega)] | rw [if_neg (by omega)]))
          have hP : va_P E.1 vwCl (wM E q z pa sl sv sp pd od pm ty om (naS pd ty wr st) (naW pd ty wr st)) H := by rw [eqc_st, eqc_wr]; exact hP
          have hD : va_D A (wM E q z pa sl sv sp pd od pm ty om (naS pd ty wr st) (naW pd ty wr st)) := by rw [eqc_st, eqc_wr]; exact hD
          exact z_iret hx hb hr hlocks hK hS () (by first | (exfalso; omega) | (unfold naV; (repeat (first | with_reducible rfl | rw [if_pos (by omega)] | rw [if_neg (by omega)])))) hP hD dX4_name_60
      · refine lv_iconst (v := iI 1) hx hb dX4_name_38 (by decide) ?_
        refine lv_goto (tgt := 60) hx hb dX4_name_39 (by decide) ?_
        have eqc_st : (naS pd ty wr st) = wS wr st := by first | (exfalso; omega) | (unfold naS; (first | rw [if_pos (by omega)] | rw [if_neg (by omega)]))
        have eqc_wr : (naW pd ty wr st) = naW1 pd ty wr st := by first | (exfalso; omega) | (unfold naW; (first | rw [if_pos (by omega)] | rw [if_neg (by omega)]))
        have hP : va_P E.1 vwCl (wM E q z pa sl sv sp pd od pm ty om (naS pd ty wr st) (naW pd ty wr st)) H := by rw [eqc_st, eqc_wr]; exact hP
        have hD : va_D A (wM E q z pa sl sv sp pd od pm ty om (naS pd ty wr st) (naW pd ty wr st)) := by rw [eqc_st, eqc_wr]; exact hD
        exact z_iret hx hb hr hlocks hK hS () (by first | (exfalso; omega) | (unfold naV; (repeat (first | with_reducible rfl | rw [if_pos (by omega)] | rw [if_neg (by omega)])))) hP hD dX4_name_60
    · refine lv_iload_n hx hb dX4_name_18 rfl (lv_at hl 0 rfl) ?_
      refine lv_bipush (v := iI 43) hx hb dX4_name_19 (by decide) ?_
      refine z_icmp_ne (tgt := 28) hx hb dX4_name_21 (by decide) ⟨by first | omega | exact (hz _ _ (by omega)).1 | exact (hz _ _ (by omega)).2, by first | omega | exact (hz _ _ (by omega)).1 | exact (hz _ _ (by omega)).2⟩ ⟨by first | omega | exact (hz _ _ (by omega)).1 | exact (hz _ _ (by omega)).2, by first | omega | exact (hz _ _ (by omega)).1 | exact (hz _ _ (by omega)).2⟩ (fun c_21 => ?_) (fun c_21 => ?_)
      · refine lv_iconst (v := iI 0) hx hb dX4_name_28 (by decide) ?_
        refine z_callVv0 (ci := 4) (qk := 0) (As := [.int (iI 0)]) (rest := []) hx hb hml hown hts hK hA hl.1 hP hD hS (c_X4_wants l E q z pa sl sv sp pd od pm ty om st wr 0  (by first | omega | exact hpd | exact ⟨by omega, by omega⟩ | exact zb_01) (by first | omega | exact hpd | exact ⟨by omega, by omega⟩ | exact zb_01) (by first | omega | exact hpd | exact ⟨by omega, by omega⟩ | exact zb_01)) gX4_name_X4_wants rfl ndX4_wants ⟨Nat.le_of_ble_eq_true rfl, Nat.le_of_ble_eq_true rfl⟩ rfl rfl rfl rfl rfl (Nat.le_of_ble_eq_true rfl) dX4_name_29 ⟨Nat.le_of_ble_eq_true rfl, Nat.le_of_ble_eq_true rfl⟩ (fun u H locs hpost hP hD hS => ?_)
        have hP : va_P E.1 vwCl (wM E q z pa sl sv sp pd od pm ty om (wS wr st) (wW 0 wr st)) H := hP
        have hD : va_D A (wM E q z pa sl sv sp pd od pm ty om (wS wr st) (wW 0 wr st)) := hD
        have hw1 : naW1 pd ty wr st = (wW 0 wr st) := by unfold naW1; first | rw [zb_t (by omega)] | rw [zb_f (by omega)]
        rw [← hw1] at hP hD
        refine lv_iload_n hx hb dX4_name_32 rfl (lv_at hl 0 rfl) ?_
        refine lv_bipush (v := iI 43) hx hb dX4_name_33 (by decide) ?_
        refine z_icmp_ne (tgt := 42) hx hb dX4_name_35 (by decide) ⟨by first | omega | exact (hz _ _ (by omega)).1 | exact (hz _ _ (by omega)).2, by first | omega | exact (hz _ _ (by omega)).1 | exact (hz _ _ (by omega)).2⟩ ⟨by first | omega | exact (hz _ _ (by omega)).1 | exact (hz _ _ (by omega)).2, by first | omega | exact (hz _ _ (by omega)).1 | exact (hz _ _ (by omega)).2⟩ (fun c_35 => ?_) (fun c_35 => ?_)
        · refine lv_iload_n hx hb dX4_name_42 rfl (lv_at hl 0 rfl) ?_
          refine lv_bipush (v := iI 45) hx hb dX4_name_43 (by decide) ?_
          refine z_icmp_ne (tgt := 59) hx hb dX4_name_45 (by decide) ⟨by first | omega | exact (hz _ _ (by omega)).1 | exact (hz _ _ (by omega)).2, by first | omega | exact (hz _ _ (by omega)).1 | exact (hz _ _ (by omega)).2⟩ ⟨by first | omega | exact (hz _ _ (by omega)).1 | exact (hz _ _ (by omega)).2, by first | omega | exact (hz _ _ (by omega)).1 | exact (hz _ _ (by omega)).2⟩ (fun c_45 => ?_) (fun c_45 => ?_)
          · refine lv_iconst (v := iI 0) hx hb dX4_name_59 (by decide) ?_
            have eqc_st : (naS pd ty wr st) = wS wr st := by first | (exfalso; omega) | (unfold naS; (first | rw [if_pos (by omega)] | rw [if_neg (by omega)]))
            have eqc_wr : (naW pd ty wr st) = naW1 pd ty wr st := by first | (exfalso; omega) | (unfold naW; (first | rw [if_pos (by omega)] | rw [if_neg (by omega)]))
            have hP : va_P E.1 vwCl (wM E q z pa sl sv sp pd od pm ty om (naS pd ty wr st) (naW pd ty wr st)) H := by rw [eqc_st, eqc_wr]; exact hP
            have hD : va_D A (wM E q z pa sl sv sp pd od pm ty om (naS pd ty wr st) (naW pd ty wr st)) := by rw [eqc_st, eqc_wr]; exact hD
            exact z_iret hx hb hr hlocks hK hS () (by first | (exfalso; omega) | (unfold naV; (repeat (first | with_reducible rfl | rw [if_pos (by omega)] | rw [if_neg (by omega)])))) hP hD dX4_name_60
          · refine lv_aload_n hx hb dX4_name_48 rfl (lv_at hl 1 rfl) ?_
            refine lv_iconst (v := iI 1) hx hb dX4_name_49 (by decide) ?_
            refine lv_bipush (v := iI 7) hx hb dX4_name_50 (by decide) ?_
            refine z_callV0 (ci := 4) (qk := 0) (As := [.int (iI 1), .int (iI 7)]) (rest := []) hx hb hml hown hts hK hA hl.1 hP hD hS (c_X4_digit l E q z pa sl sv sp pd od pm ty om (wS wr st) (naW1 pd ty wr st) 1 7  (by first | omega | exact hpd | exact ⟨by omega, by omega⟩ | exact zb_01) (by first | omega | exact hpd | exact ⟨by omega, by omega⟩ | exact zb_01) (by first | omega | exact hpd | exact ⟨by omega, by omega⟩ | exact zb_01) (by first | omega | exact hpd | exact ⟨by omega, by omega⟩ | exact zb_01) (by first | omega | exact hpd | exact ⟨by omega, by omega⟩ | exact zb_01) (by first | omega | exact hpd | exact ⟨by omega, by omega⟩ | exact zb_01)) gX4_name_X4_digit rfl ndX4_digit ⟨Nat.le_of_ble_eq_true rfl, Nat.le_of_ble_eq_true rfl⟩ rfl rfl rfl rfl rfl (Nat.le_of_ble_eq_true rfl) dX4_name_52 ⟨Nat.le_of_ble_eq_true rfl, Nat.le_of_ble_eq_true rfl⟩ (fun x u H locs hpost hP hD hS => ?_)
            subst hpost
            have hP : va_P E.1 vwCl (wM E q z pa sl sv sp pd od pm ty om (wS (naW1 pd ty wr st) (wS wr st)) (dW 1 7 (Lt pd ty (wS wr st)) (naW1 pd ty wr st) (wS wr st))) H := hP
            have hD : va_D A (wM E q z pa sl sv sp pd od pm ty om (wS (naW1 pd ty wr st) (wS wr st)) (dW 1 7 (Lt pd ty (wS wr st)) (naW1 pd ty wr st) (wS wr st))) := hD
            refine z_ineg hx hb dX4_name_55 ?_
            refine lv_goto (tgt := 60) hx hb dX4_name_56 (by decide) ?_
            have eqc_st : (naS pd ty wr st) = wS (naW1 pd ty wr st) (wS wr st) := by first | (exfalso; omega) | (unfold naS; (first | rw [if_pos (by omega)] | rw [if_neg (by omega)]))
            have eqc_wr : (naW pd ty wr st) = dW 1 7 (Lt pd ty (wS wr st)) (naW1 pd ty wr st) (wS wr st) := by first | (exfalso; omega) | (unfold naW; (first | rw [if_pos (by omega)] | rw [if_neg (by omega)]))
            have hP : va_P E.1 vwCl (wM E q z pa sl sv sp pd od pm ty om (naS pd ty wr st) (naW pd ty wr st)) H := by rw [eqc_st, eqc_wr]; exact hP
            have hD : va_D A (wM E q z pa sl sv sp pd od pm ty om (naS pd ty wr st) (naW pd ty wr st)) := by rw [eqc_st, eqc_wr]; exact hD
            exact z_iret hx hb hr hlocks hK hS () (by first | (exfalso; omega) | (unfold naV; (repeat (first | with_reducible rfl | rw [if_pos (by omega)] | rw [if_neg (by omega)])))) hP hD dX4_name_60
        · refine lv_iconst (v := iI 1) hx hb dX4_name_38 (by decide) ?_
          refine lv_goto (tgt := 60) hx hb dX4_name_39 (by decide) ?_
          have eqc_st : (naS pd ty wr st) = wS wr st := by first | (exfalso; omega) | (unfold naS; (first | rw [if_pos (by omega)] | rw [if_neg (by omega)]))
          have eqc_wr : (naW pd ty wr st) = naW1 pd ty wr st := by first | (exfalso; omega) | (unfold naW; (first | rw [if_pos (by omega)] | rw [if_neg (by omega)]))
          have hP : va_P E.1 vwCl (wM E q z pa sl sv sp pd od pm ty om (naS pd ty wr st) (naW pd ty wr st)) H := by rw [eqc_st, eqc_wr]; exact hP
          have hD : va_D A (wM E q z pa sl sv sp pd od pm ty om (naS pd ty wr st) (naW pd ty wr st)) := by rw [eqc_st, eqc_wr]; exact hD
          exact z_iret hx hb hr hlocks hK hS () (by first | (exfalso; omega) | (unfold naV; (repeat (first | with_reducible rfl | rw [if_pos (by omega)] | rw [if_neg (by omega)])))) hP hD dX4_name_60
      · refine lv_iconst (v := iI 1) hx hb dX4_name_24 (by decide) ?_
        refine lv_goto (tgt := 29) hx hb dX4_name_25 (by decide) ?_
        refine z_callVv0 (ci := 4) (qk := 0) (As := [.int (iI 1)]) (rest := []) hx hb hml hown hts hK hA hl.1 hP hD hS (c_X4_wants l E q z pa sl sv sp pd od pm ty om st wr 1  (by first | omega | exact hpd | exact ⟨by omega, by omega⟩ | exact zb_01) (by first | omega | exact hpd | exact ⟨by omega, by omega⟩ | exact zb_01) (by first | omega | exact hpd | exact ⟨by omega, by omega⟩ | exact zb_01)) gX4_name_X4_wants rfl ndX4_wants ⟨Nat.le_of_ble_eq_true rfl, Nat.le_of_ble_eq_true rfl⟩ rfl rfl rfl rfl rfl (Nat.le_of_ble_eq_true rfl) dX4_name_29 ⟨Nat.le_of_ble_eq_true rfl, Nat.le_of_ble_eq_true rfl⟩ (fun u H locs hpost hP hD hS => ?_)
        have hP : va_P E.1 vwCl (wM E q z pa sl sv sp pd od pm ty om (wS wr st) (wW 1 wr st)) H := hP
        have hD : va_D A (wM E q z pa sl sv sp pd od pm ty om (wS wr st) (wW 1 wr st)) := hD
        have hw1 : naW1 pd ty wr st = (wW 1 wr st) := by unfold naW1; first | rw [zb_t (by omega)] | rw [zb_f (by omega)]
        rw [← hw1] at hP hD
        refine lv_iload_n hx hb dX4_name_32 rfl (lv_at hl 0 rfl) ?_
        refine lv_bipush (v := iI 43) hx hb dX4_name_33 (by decide) ?_
        refine z_icmp_ne (tgt := 42) hx hb dX4_name_35 (by decide) ⟨by first | omega | exact (hz _ _ (by omega)).1 | exact (hz _ _ (by omega)).2, by first | omega | exact (hz _ _ (by omega)).1 | exact (hz _ _ (by omega)).2⟩ ⟨by first | omega | exact (hz _ _ (by omega)).1 | exact (hz _ _ (by omega)).2, by first | omega | exact (hz _ _ (by omega)).1 | exact (hz _ _ (by omega)).2⟩ (fun c_35 => ?_) (fun c_35 => ?_)
        · refine lv_iload_n hx hb dX4_name_42 rfl (lv_at hl 0 rfl) ?_
          refine lv_bipush (v := iI 45) hx hb dX4_name_43 (by decide) ?_
          refine z_icmp_ne (tgt := 59) hx hb dX4_name_45 (by decide) ⟨by first | omega | exact (hz _ _ (by omega)).1 | exact (hz _ _ (by omega)).2, by first | omega | exact (hz _ _ (by omega)).1 | exact (hz _ _ (by omega)).2⟩ ⟨by first | omega | exact (hz _ _ (by omega)).1 | exact (hz _ _ (by omega)).2, by first | omega | exact (hz _ _ (by omega)).1 | exact (hz _ _ (by omega)).2⟩ (fun c_45 => ?_) (fun c_45 => ?_)
          · refine lv_iconst (v := iI 0) hx hb dX4_name_59 (by decide) ?_
            have eqc_st : (naS pd ty wr st) = wS wr st := by first | (exfalso; omega) | (unfold naS; (first | rw [if_pos (by omega)] | rw [if_neg (by omega)]))
            have eqc_wr : (naW pd ty wr st) = naW1 pd ty wr st := by first | (exfalso; omega) | (unfold naW; (first | rw [if_pos (by omega)] | rw [if_neg (by omega)]))
            have hP : va_P E.1 vwCl (wM E q z pa sl sv sp pd od pm ty om (naS pd ty wr st) (naW pd ty wr st)) H := by rw [eqc_st, eqc_wr]; exact hP
            have hD : va_D A (wM E q z pa sl sv sp pd od pm ty om (naS pd ty wr st) (naW pd ty wr st)) := by rw [eqc_st, eqc_wr]; exact hD
            exact z_iret hx hb hr hlocks hK hS () (by first | (exfalso; omega) | (unfold naV; (repeat (first | with_reducible rfl | rw [if_pos (by omega)] | rw [if_neg (by omega)])))) hP hD dX4_name_60
          · refine lv_aload_n hx hb dX4_name_48 rfl (lv_at hl 1 rfl) ?_
            refine lv_iconst (v := iI 1) hx hb dX4_name_49 (by decide) ?_
            refine lv_bipush (v := iI 7) hx hb dX4_name_50 (by decide) ?_
            refine z_callV0 (ci := 4) (qk := 0) (As := [.int (iI 1), .int (iI 7)]) (rest := []) hx hb hml hown hts hK hA hl.1 hP hD hS (c_X4_digit l E q z pa sl sv sp pd od pm ty om (wS wr st) (naW1 pd ty wr st) 1 7  (by first | omega | exact hpd | exact ⟨by omega, by omega⟩ | exact zb_01) (by first | omega | exact hpd | exact ⟨by omega, by omega⟩ | exact zb_01) (by first | omega | exact hpd | exact ⟨by omega, by omega⟩ | exact zb_01) (by first | omega | exact hpd | exact ⟨by omega, by omega⟩ | exact zb_01) (by first | omega | exact hpd | exact ⟨by omega, by omega⟩ | exact zb_01) (by first | omega | exact hpd | exact ⟨by omega, by omega⟩ | exact zb_01)) gX4_name_X4_digit rfl ndX4_digit ⟨Nat.le_of_ble_eq_true rfl, Nat.le_of_ble_eq_true rfl⟩ rfl rfl rfl rfl rfl (Nat.le_of_ble_eq_true rfl) dX4_name_52 ⟨Nat.le_of_ble_eq_true rfl, Nat.le_of_ble_eq_true rfl⟩ (fun x u H locs hpost hP hD hS => ?_)
            subst hpost
            have hP : va_P E.1 vwCl (wM E q z pa sl sv sp pd od pm ty om (wS (naW1 pd ty wr st) (wS wr st)) (dW 1 7 (Lt pd ty (wS wr st)) (naW1 pd ty wr st) (wS wr st))) H := hP
            have hD : va_D A (wM E q z pa sl sv sp pd od pm ty om (wS (naW1 pd ty wr st) (wS wr st)) (dW 1 7 (Lt pd ty (wS wr st)) (naW1 pd ty wr st) (wS wr st))) := hD
            refine z_ineg hx hb dX4_name_55 ?_
            refine lv_goto (tgt := 60) hx hb dX4_name_56 (by decide) ?_
            have eqc_st : (naS pd ty wr st) = wS (naW1 pd ty wr st) (wS wr st) := by first | (exfalso; omega) | (unfold naS; (first | rw [if_pos (by omega)] | rw [if_neg (by omega)]))
            have eqc_wr : (naW pd ty wr st) = dW 1 7 (Lt pd ty (wS wr st)) (naW1 pd ty wr st) (wS wr st) := by first | (exfalso; omega) | (unfold naW; (first | rw [if_pos (by omega)] | rw [if_neg (by omega)]))
            have hP : va_P E.1 vwCl (wM E q z pa sl sv sp pd od pm ty om (naS pd ty wr st) (naW pd ty wr st)) H := by rw [eqc_st, eqc_wr]; exact hP
            have hD : va_D A (wM E q z pa sl sv sp pd od pm ty om (naS pd ty wr st) (naW pd ty wr st)) := by rw [eqc_st, eqc_wr]; exact hD
            exact z_iret hx hb hr hlocks hK hS () (by first | (exfalso; omega) | (unfold naV; (repeat (first | with_reducible rfl | rw [if_pos (by omega)] | rw [if_neg (by omega)])))) hP hD dX4_name_60
        · refine lv_iconst (v := iI 1) hx hb dX4_name_38 (by decide) ?_
          refine lv_goto (tgt := 60) hx hb dX4_name_39 (by decide) ?_
          have eqc_st : (naS pd ty wr st) = wS wr st := by first | (exfalso; omega) | (unfold naS; (first | rw [if_pos (by omega)] | rw [if_neg (by omega)]))
          have eqc_wr : (naW pd ty wr st) = naW1 pd ty wr st := by first | (exfalso; omega) | (unfold naW; (first | rw [if_pos (by omega)] | rw [if_neg (by omega)]))
          have hP : va_P E.1 vwCl (wM E q z pa sl sv sp pd od pm ty om (naS pd ty wr st) (naW pd ty wr st)) H := by rw [eqc_st, eqc_wr]; exact hP
          have hD : va_D A (wM E q z pa sl sv sp pd od pm ty om (naS pd ty wr st) (naW pd ty wr st)) := by rw [eqc_st, eqc_wr]; exact hD
          exact z_iret hx hb hr hlocks hK hS () (by first | (exfalso; omega) | (unfold naV; (repeat (first | with_reducible rfl | rw [if_pos (by omega)] | rw [if_neg (by omega)])))) hP hD dX4_name_60
