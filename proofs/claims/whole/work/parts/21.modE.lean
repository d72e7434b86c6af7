theorem ndX4_start : yX4_start.cls = RX4 ∧ yX4_start.cls ≠ "java/lang/invoke/MethodHandle" ∧ yX4_start.cls ≠ "java/lang/invoke/VarHandle" ∧ (parseMethodDescriptor yX4_start.desc).map (fun d => d.parameters.length) = some 0 := by decide +kernel
set_option maxRecDepth 100000 in
set_option maxHeartbeats 4000000 in
theorem c_X4_start (l : Launch) (E : zE) (q : Nat → Nat) (z pa sl sv sp pd od : Int → Int) (pm ty om st wr : Int) : zF l E yX4_start wsX4_start 1 23 [.ref (q 0)] (wM E q z pa sl sv sp pd od pm ty om st wr) ((mStart z) 0) (wM E q (mStart z) pa sl sv sp pd od pm ty om st wr) := by
  refine zC_of (cc := cX4_start) (maxL := 2) (by decide) rfl (Nat.le_of_ble_eq_true rfl) ?_
  intro p e s m below meth c ls A hx hb hr hts hown hlocks hml hK hA hS hP hD hl
  have hown : s.vm.findClass RX4 = some m.cls := hown
  have hl : lv_has ls 2 [(0, .ref (q 0))] := hl
  have hinX4 : ∀ v ∈ u_ws RX4 TX4 12, v ∈ wsX4_start := by decide +kernel
  have hf_7 := hts (.fieldLink RX4 7 "GenerationNamesModel" "z" "[I") (by decide +kernel)
  refine lv_aload_n hx hb dX4_start_0 rfl (lv_at hl 0 rfl) ?_
  refine va_get (D := E.1) (cl := vwCl) (ci := 4) (v := .ref (q 1)) (C := RX4) (T := TX4) (N := 12) hx hb hts hinX4 hown hK hP 0 rfl rfl 0 (by decide) hf_7 (fun _ h => h) rfl dX4_start_1 ?_
  refine lv_iconst (v := iI 1) hx hb dX4_start_4 (by decide) ?_
  refine lv_iconst (v := iI 1) hx hb dX4_start_5 (by decide) ?_
  refine z_iast (D := E.1) (cl := vwCl) (tys := zT E) (f := z) hx hb hK hP hD hS 1 0 rfl rfl (by omega) (by omega) (by omega) dX4_start_6 (fun H locs hP hD hS => ?_)
  have hP : va_P E.1 vwCl (wM E q (iU z 1 1) pa sl sv sp pd od pm ty om st wr) H := hP
  have hD : va_D A (wM E q (iU z 1 1) pa sl sv sp pd od pm ty om st wr) := hD
  refine lv_aload_n hx hb dX4_start_7 rfl (lv_at hl 0 rfl) ?_
  refine va_get (D := E.1) (cl := vwCl) (ci := 4) (v := .ref (q 1)) (C := RX4) (T := TX4) (N := 12) hx hb hts hinX4 hown hK hP 0 rfl rfl 0 (by decide) hf_7 (fun _ h => h) rfl dX4_start_8 ?_
  refine lv_iconst (v := iI 2) hx hb dX4_start_11 (by decide) ?_
  refine lv_iconst (v := iI 0) hx hb dX4_start_12 (by decide) ?_
  refine z_iast (D := E.1) (cl := vwCl) (tys := zT E) (f := (iU z 1 1)) hx hb hK hP hD hS 1 0 rfl rfl (by omega) (by omega) (by omega) dX4_start_13 (fun H locs hP hD hS => ?_)
  have hP : va_P E.1 vwCl (wM E q (iU (iU z 1 1) 2 0) pa sl sv sp pd od pm ty om st wr) H := hP
  have hD : va_D A (wM E q (iU (iU z 1 1) 2 0) pa sl sv sp pd od pm ty om st wr) := hD
  refine lv_aload_n hx hb dX4_start_14 rfl (lv_at hl 0 rfl) ?_
  refine va_get (D := E.1) (cl := vwCl) (ci := 4) (v := .ref (q 1)) (C := RX4) (T := TX4) (N := 12) hx hb hts hinX4 hown hK hP 0 rfl rfl 0 (by decide) hf_7 (fun _ h => h) rfl dX4_start_15 ?_
  refine lv_iconst (v := iI 0) hx hb dX4_start_18 (by decide) ?_
  refine lv_dup2_11 hx hb dX4_start_19 rfl rfl ?_
  refine z_iald (D := E.1) (cl := vwCl) (tys := zT E) (f := (iU (iU z 1 1) 2 0)) hx hb hK hP 1 0 rfl rfl (by omega) (by omega) (by omega) dX4_start_20 ?_
  refine lv_iconst (v := iI 1) hx hb dX4_start_21 (by decide) ?_
  refine z_iadd hx hb dX4_start_22 ?_
  refine z_iast (D := E.1) (cl := vwCl) (tys := zT E) (f := (iU (iU z 1 1) 2 0)) hx hb hK hP hD hS 1 0 rfl rfl (by omega) (by omega) (by omega) dX4_start_23 (fun H locs hP hD hS => ?_)
  have hP : va_P E.1 vwCl (wM E q (iU (iU (iU z 1 1) 2 0) 0 (((iU (iU z 1 1) 2 0) 0) + 1)) pa sl sv sp pd od pm ty om st wr) H := hP
  have hD : va_D A (wM E q (iU (iU (iU z 1 1) 2 0) 0 (((iU (iU z 1 1) 2 0) 0) + 1)) pa sl sv sp pd od pm ty om st wr) := hD
  refine lv_iconst (v := iI 0) hx hb dX4_start_24 (by decide) ?_
  refine lv_istore_n (lv' := [(1, .int (iI 0)), (0, .ref (q 0))]) hx hb dX4_start_25 rfl hl (by decide) rfl (fun ls hl => ?_)
  have hloop26 : ∀ (n : Nat) (z1 : Int → Int) (i1 : Int) (hmu : 6 - i1 = (n : Int)) (hi26_0 : z1 = itr (fun g y => zs y g 5 0) (mStart0 z) (i1).toNat) (hi26_1 : 0 ≤ i1 ∧ i1 ≤ 6) (H : Heap) (locs : List Loc) (ls : Array Slot), va_P E.1 vwCl (wM E q z1 pa sl sv sp pd od pm ty om st wr) H → va_D A (wM E q z1 pa sl sv sp pd od pm ty om st wr) → va_S A s.heap H locs → lv_has ls 2 [(1, .int (iI i1)), (0, .ref (q 0))] → W p l e (zR 1 23) s m ([.ref (q 0)] : List Value).toArray below meth c H locs 0 0 (MQ below (zQ E A (S := Unit) (fun x _ => x = ((mStart z) 0)) (fun _ => wM E q (mStart z) pa sl sv sp pd od pm ty om st wr)) ([.ref (q 0)] : List Value).toArray s 0 0 A) (F0 m 26 ls []) := by
    intro n
    induction n using Nat.strongRecOn with
    | ind n ih26 =>
      intro z1 i1 hmu26 hi26_0 hi26_1 H locs ls hP hD hS hl
      refine lv_iload_n hx hb dX4_start_26 rfl (lv_at hl 0 rfl) ?_
      refine lv_bipush (v := iI 6) hx hb dX4_start_27 (by decide) ?_
      refine z_icmp_ge (tgt := 45) hx hb dX4_start_29 (by decide) ⟨by first | omega | exact (hz _ _ (by omega)).1 | exact (hz _ _ (by omega)).2, by first | omega | exact (hz _ _ (by omega)).1 | exact (hz _ _ (by omega)).2⟩ ⟨by first | omega | exact (hz _ _ (by omega)).1 | exact (hz _ _ (by omega)).2, by first | omega | exact (hz _ _ (by omega)).1 | exact (hz _ _ (by omega)).2⟩ (fun c_29 => ?_) (fun c_29 => ?_)
      · refine lv_aload_n hx hb dX4_start_45 rfl (lv_at hl 1 rfl) ?_
        refine va_get (D := E.1) (cl := vwCl) (ci := 4) (v := .ref (q 1)) (C := RX4) (T := TX4) (N := 12) hx hb hts hinX4 hown hK hP 0 rfl rfl 0 (by decide) hf_7 (fun _ h => h) rfl dX4_start_46 ?_
        refine lv_iconst (v := iI 0) hx hb dX4_start_49 (by decide) ?_
        refine z_iald (D := E.1) (cl := vwCl) (tys := zT E) (f := z1) hx hb hK hP 1 0 rfl rfl (by omega) (by omega) (by omega) dX4_start_50 ?_
        have eqc_z : (mStart z) = z1 := by rw [hi26_0, show i1 = 6 by omega]; rfl
        have hP : va_P E.1 vwCl (wM E q (mStart z) pa sl sv sp pd od pm ty om st wr) H := by rw [eqc_z]; exact hP
        have hD : va_D A (wM E q (mStart z) pa sl sv sp pd od pm ty om st wr) := by rw [eqc_z]; exact hD
        exact z_iret hx hb hr hlocks hK hS () (by rw [eqc_z]) hP hD dX4_start_51
      · refine lv_aload_n hx hb dX4_start_32 rfl (lv_at hl 1 rfl) ?_
        refine lv_iload_n hx hb dX4_start_33 rfl (lv_at hl 0 rfl) ?_
        refine lv_iconst (v := iI 5) hx hb dX4_start_34 (by decide) ?_
        refine lv_iconst (v := iI 0) hx hb dX4_start_35 (by decide) ?_
        refine z_callVv0 (ci := 4) (qk := 0) (As := [.int (iI i1), .int (iI 5), .int (iI 0)]) (rest := []) hx hb hml hown hts hK hA hl.1 hP hD hS (c_X4_lay l E q z1 pa sl sv sp pd od pm ty om st wr i1 5 0  (by first | omega | exact hz _ _ (by omega) | exact hz | exact ⟨by omega, by omega⟩) (by first | omega | exact hz _ _ (by omega) | exact hz | exact ⟨by omega, by omega⟩)) gX4_start_X4_lay rfl ndX4_lay ⟨Nat.le_of_ble_eq_true rfl, Nat.le_of_ble_eq_true rfl⟩ rfl rfl rfl rfl rfl (Nat.le_of_ble_eq_true rfl) dX4_start_36 ⟨Nat.le_of_ble_eq_true rfl, Nat.le_of_ble_eq_true rfl⟩ (fun u H locs hpost hP hD hS => ?_)
        have hP : va_P E.1 vwCl (wM E q (zs z1 i1 5 0) pa sl sv sp pd od pm ty om st wr) H := hP
        have hD : va_D A (wM E q (zs z1 i1 5 0) pa sl sv sp pd od pm ty om st wr) := hD
        refine lv_iinc (v := iI (i1 + 1)) (lv' := [(1, .int (iI (i1 + 1))), (0, .ref (q 0))]) hx hb dX4_start_39 hl (k := 0) rfl (iI_add _ _) (by decide) rfl (fun ls hl => ?_)
        refine lv_goto (tgt := 26) hx hb dX4_start_42 (by decide) ?_
        exact ih26 (6 - (i1 + 1) : Int).toNat (by omega) (zs z1 i1 5 0) (i1 + 1) (by omega) (by rw [itr_step (by omega), ← hi26_0]) (by omega) _ _ ls hP hD hS (lv_sub hl [0, 1] rfl)
  exact hloop26 (6 - 0 : Int).toNat (iU (iU (iU z 1 1) 2 0) 0 (((iU (iU z 1 1) 2 0) 0) + 1)) 0 (by omega) (rfl) (by omega) _ _ ls hP hD hS (lv_sub hl [0, 1] rfl)

theorem ndX4_beginIt : yX4_beginIt.cls = RX4 ∧ yX4_beginIt.cls ≠ "java/lang/invoke/MethodHandle" ∧ yX4_beginIt.cls ≠ "java/lang/invoke/VarHandle" ∧ (parseMethodDescriptor yX4_beginIt.desc).map (fun d => d.parameters.length) = some 0 := by decide +kernel
set_option maxRecDepth 100000 in
set_option maxHeartbeats 4000000 in
theorem c_X4_beginIt (l : Launch) (E : zE) (q : Nat → Nat) (z pa sl sv sp pd od : Int → Int) (pm ty om st wr : Int) (h0 : AG z) (h1 : CZ z) : zF l E yX4_beginIt wsX4_beginIt 2 45 [.ref (q 0)] (wM E q z pa sl sv sp pd od pm ty om st wr) ((mBegin z) 0) (wM E q (mBegin z) pa sl sv sp pd od pm ty om st wr) := by
  have hz := h1
  have hm := h0
  refine zC_of (cc := cX4_beginIt) (maxL := 3) (by decide) rfl (Nat.le_of_ble_eq_true rfl) ?_
  intro p e s m below meth c ls A hx hb hr hts hown hlocks hml hK hA hS hP hD hl
  have hown : s.vm.findClass RX4 = some m.cls := hown
  have hl : lv_has ls 3 [(0, .ref (q 0))] := hl
  refine lv_iconst (v := iI 0) hx hb dX4_beginIt_0 (by decide) ?_
  refine lv_istore_n (lv' := [(1, .int (iI 0)), (0, .ref (q 0))]) hx hb dX4_beginIt_1 rfl hl (by decide) rfl (fun ls hl => ?_)
  have hloop2 : ∀ (n : Nat) (z1 : Int → Int) (i1 : Int) (hmu : 6 - i1 = (n : Int)) (hi2_0 : z1 = itr (fun g y => mNames1 y g) z (i1).toNat) (hi2_1 : 0 ≤ i1 ∧ i1 ≤ 6) (hi2_2 : mNPre z z1) (H : Heap) (locs : List Loc) (ls : Array Slot), va_P E.1 vwCl (wM E q z1 pa sl sv sp pd od pm ty om st wr) H → va_D A (wM E q z1 pa sl sv sp pd od pm ty om st wr) → va_S A s.heap H locs → lv_has ls 3 [(1, .int (iI i1)), (0, .ref (q 0))] → W p l e (zR 2 45) s m ([.ref (q 0)] : List Value).toArray below meth c H locs 0 0 (MQ below (zQ E A (S := Unit) (fun x _ => x = ((mBegin z) 0)) (fun _ => wM E q (mBegin z) pa sl sv sp pd od pm ty om st wr)) ([.ref (q 0)] : List Value).toArray s 0 0 A) (F0 m 2 ls []) := by
    intro n
    induction n using Nat.strongRecOn with
    | ind n ih2 =>
      intro z1 i1 hmu2 hi2_0 hi2_1 hi2_2 H locs ls hP hD hS hl
      refine lv_iload_n hx hb dX4_beginIt_2 rfl (lv_at hl 0 rfl) ?_
      refine lv_bipush (v := iI 6) hx hb dX4_beginIt_3 (by decide) ?_
      refine z_icmp_ge (tgt := 57) hx hb dX4_beginIt_5 (by decide) ⟨by first | omega | (rw [hp2 _ _ (by omega) (by omega) (by omega)]; have := hm i1 (by omega) (by omega); omega), by first | omega | (rw [hp2 _ _ (by omega) (by omega) (by omega)]; have := hm i1 (by omega) (by omega); omega)⟩ ⟨by first | omega | (rw [hp2 _ _ (by omega) (by omega) (by omega)]; have := hm i1 (by omega) (by omega); omega), by first | omega | (rw [hp2 _ _ (by omega) (by omega) (by omega)]; have := hm i1 (by omega) (by omega); omega)⟩ (fun c_5 => ?_) (fun c_5 => ?_)
      · refine lv_aload_n hx hb dX4_beginIt_57 rfl (lv_at hl 1 rfl) ?_
        have hzn : z1 = mNames z := by rw [hi2_0, show i1 = 6 by omega]; rfl
        refine z_callV0 (ci := 4) (qk := 0) (As := []) (rest := []) hx hb hml hown hts hK hA hl.1 hP hD hS (c_X4_start l E q z1 pa sl sv sp pd od pm ty om st wr   ) gX4_beginIt_X4_start rfl ndX4_start ⟨Nat.le_of_ble_eq_true rfl, Nat.le_of_ble_eq_true rfl⟩ rfl rfl rfl rfl rfl (Nat.le_of_ble_eq_true rfl) dX4_beginIt_58 ⟨Nat.le_of_ble_eq_true rfl, Nat.le_of_ble_eq_true rfl⟩ (fun x u H locs hpost hP hD hS => ?_)
        subst hpost
        have hP : va_P E.1 vwCl (wM E q (mStart z1) pa sl sv sp pd od pm ty om st wr) H := hP
        have hD : va_D A (wM E q (mStart z1) pa sl sv sp pd od pm ty om st wr) := hD
        have eqc_z : (mBegin z) = mStart z1 := by unfold mBegin; rw [hzn]
        have hP : va_P E.1 vwCl (wM E q (mBegin z) pa sl sv sp pd od pm ty om st wr) H := by rw [eqc_z]; exact hP
        have hD : va_D A (wM E q (mBegin z) pa sl sv sp pd od pm ty om st wr) := by rw [eqc_z]; exact hD
        exact z_iret hx hb hr hlocks hK hS () (by rw [eqc_z]) hP hD dX4_beginIt_61
      · refine lv_iconst (v := iI 0) hx hb dX4_beginIt_8 (by decide) ?_
        refine lv_istore_n (lv' := [(2, .int (iI 0)), (1, .int (iI i1)), (0, .ref (q 0))]) hx hb dX4_beginIt_9 rfl hl (by decide) rfl (fun ls hl => ?_)
        have hloop10 : ∀ (n : Nat) (z2 : Int → Int) (i2 : Int) (hmu : 8 - i2 = (n : Int)) (hi10_0 : z2 = itr (fun p y => zs y i1 (7 + p) (if p < zg y i1 1 then zg y i1 (15 + 5 * p + 0) else 0)) z1 (i2).toNat) (hi10_1 : 0 ≤ i2 ∧ i2 ≤ 8) (hi10_2 : mNPre z z2) (H : Heap) (locs : List Loc) (ls : Array Slot), va_P E.1 vwCl (wM E q z2 pa sl sv sp pd od pm ty om st wr) H → va_D A (wM E q z2 pa sl sv sp pd od pm ty om st wr) → va_S A s.heap H locs → lv_has ls 3 [(2, .int (iI i2)), (1, .int (iI i1)), (0, .ref (q 0))] → W p l e (zR 2 45) s m ([.ref (q 0)] : List Value).toArray below meth c H locs 0 0 (MQ below (zQ E A (S := Unit) (fun x _ => x = ((mBegin z) 0)) (fun _ => wM E q (mBegin z) pa sl sv sp pd od pm ty om st wr)) ([.ref (q 0)] : List Value).toArray s 0 0 A) (F0 m 10 ls []) := by
          intro n
          induction n using Nat.strongRecOn with
          | ind n ih10 =>
            intro z2 i2 hmu10 hi10_0 hi10_1 hi10_2 H locs ls hP hD hS hl
            have hp2 := hi10_2
            refine lv_iload_n hx hb dX4_beginIt_10 rfl (lv_at hl 0 rfl) ?_
            refine lv_bipush (v := iI 8) hx hb dX4_beginIt_11 (by decide) ?_
            refine z_icmp_ge (tgt := 51) hx hb dX4_beginIt_13 (by decide) ⟨by first | omega | (rw [hp2 _ _ (by omega) (by omega) (by omega)]; have := hm i1 (by omega) (by omega); omega), by first | omega | (rw [hp2 _ _ (by omega) (by omega) (by omega)]; have := hm i1 (by omega) (by omega); omega)⟩ ⟨by first | omega | (rw [hp2 _ _ (by omega) (by omega) (by omega)]; have := hm i1 (by omega) (by omega); omega), by first | omega | (rw [hp2 _ _ (by omega) (by omega) (by omega)]; have := hm i1 (by omega) (by omega); omega)⟩ (fun c_13 => ?_) (fun c_13 => ?_)
            · refine lv_iinc (v := iI (i1 + 1)) (lv' := [(1, .int (iI (i1 + 1))), (2, .int (iI i2)), (0, .ref (q 0))]) hx hb dX4_beginIt_51 hl (k := 1) rfl (iI_add _ _) (by decide) rfl (fun ls hl => ?_)
              refine lv_goto (tgt := 2) hx hb dX4_beginIt_54 (by decide) ?_
              exact ih2 (6 - (i1 + 1) : Int).toNat (by omega) z2 (i1 + 1) (by omega) (by rw [itr_step (by omega), ← hi2_0, hi10_0, show i2 = 8 by omega]; rfl) (by omega) (hp2) _ _ ls hP hD hS (lv_sub hl [0, 2] rfl)
            · refine lv_aload_n hx hb dX4_beginIt_16 rfl (lv_at hl 2 rfl) ?_
              refine lv_iload_n hx hb dX4_beginIt_17 rfl (lv_at hl 1 rfl) ?_
              refine lv_bipush (v := iI 7) hx hb dX4_beginIt_18 (by decide) ?_
              refine lv_iload_n hx hb dX4_beginIt_20 rfl (lv_at hl 0 rfl) ?_
              refine z_iadd hx hb dX4_beginIt_21 ?_
              refine lv_iload_n hx hb dX4_beginIt_22 rfl (lv_at hl 0 rfl) ?_
              refine lv_aload_n hx hb dX4_beginIt_23 rfl (lv_at hl 2 rfl) ?_
              refine lv_iload_n hx hb dX4_beginIt_24 rfl (lv_at hl 1 rfl) ?_
              refine z_callV0 (ci := 4) (qk := 0) (As := [.int (iI i1)]) (rest := [.int (iI i2), .int (iI (7 + i2)), .int (iI i1), .ref (q 0)]) hx hb hml hown hts hK hA hl.1 hP hD hS (c_X4_many l E q z2 pa sl sv sp pd od pm ty om st wr i1  (by first | omega | exact hz _ _ (by omega) | exact hz | exact ⟨by omega, by omega⟩)) gX4_beginIt_X4_many rfl ndX4_many ⟨Nat.le_of_ble_eq_true rfl, Nat.le_of_ble_eq_true rfl⟩ rfl rfl rfl rfl rfl (Nat.le_of_ble_eq_true rfl) dX4_beginIt_25 ⟨Nat.le_of_ble_eq_true rfl, Nat.le_of_ble_eq_true rfl⟩ (fun x u H locs hpost hP hD hS => ?_)
              subst hpost
              have hP : va_P E.1 vwCl (wM E q z2 pa sl sv sp pd od pm ty om st wr) H := hP
              have hD : va_D A (wM E q z2 pa sl sv sp pd od pm ty om st wr) := hD
              refine z_icmp_ge (tgt := 41) hx hb dX4_beginIt_28 (by decide) ⟨by first | omega | (rw [hp2 _ _ (by omega) (by omega) (by omega)]; have := hm i1 (by omega) (by omega); omega), by first | omega | (rw [hp2 _ _ (by omega) (by omega) (by omega)]; have := hm i1 (by omega) (by omega); omega)⟩ ⟨by first | omega | (rw [hp2 _ _ (by omega) (by omega) (by omega)]; have := hm i1 (by omega) (by omega); omega), by first | omega | (rw [hp2 _ _ (by omega) (by omega) (by omega)]; have := hm i1 (by omega) (by omega); omega)⟩ (fun c_28 => ?_) (fun c_28 => ?_)
              · refine lv_iconst (v := iI 0) hx hb dX4_beginIt_41 (by decide) ?_
                refine z_callVv0 (ci := 4) (qk := 0) (As := [.int (iI i1), .int (iI (7 + i2)), .int (iI 0)]) (rest := []) hx hb hml hown hts hK hA hl.1 hP hD hS (c_X4_lay l E q z2 pa sl sv sp pd od pm ty om st wr i1 (7 + i2) 0  (by first | omega | exact hz _ _ (by omega) | exact hz | exact ⟨by omega, by omega⟩) (by first | omega | exact hz _ _ (by omega) | exact hz | exact ⟨by omega, by omega⟩)) gX4_beginIt_X4_lay rfl ndX4_lay ⟨Nat.le_of_ble_eq_true rfl, Nat.le_of_ble_eq_true rfl⟩ rfl rfl rfl rfl rfl (Nat.le_of_ble_eq_true rfl) dX4_beginIt_42 ⟨Nat.le_of_ble_eq_true rfl, Nat.le_of_ble_eq_true rfl⟩ (fun u H locs hpost hP hD hS => ?_)
                have hP : va_P E.1 vwCl (wM E q (zs z2 i1 (7 + i2) 0) pa sl sv sp pd od pm ty om st wr) H := hP
                have hD : va_D A (wM E q (zs z2 i1 (7 + i2) 0) pa sl sv sp pd od pm ty om st wr) := hD
                refine lv_iinc (v := iI (i2 + 1)) (lv' := [(2, .int (iI (i2 + 1))), (1, .int (iI i1)), (0, .ref (q 0))]) hx hb dX4_beginIt_45 hl (k := 0) rfl (iI_add _ _) (by decide) rfl (fun ls hl => ?_)
                refine lv_goto (tgt := 10) hx hb dX4_beginIt_48 (by decide) ?_
                exact ih10 (8 - (i2 + 1) : Int).toNat (by omega) (zs z2 i1 (7 + i2) 0) (i2 + 1) (by omega) (by rw [itr_step (by omega), ← hi10_0]; first | rw [if_pos (by omega)] | rw [if_neg (by omega)]) (by omega) (mNPre_zs hp2 (by omega)) _ _ ls hP hD hS (lv_sub hl [0, 1, 2] rfl)
              · refine lv_aload_n hx hb dX4_beginIt_31 rfl (lv_at hl 2 rfl) ?_
                refine lv_iload_n hx hb dX4_beginIt_32 rfl (lv_at hl 1 rfl) ?_
                refine lv_iload_n hx hb dX4_beginIt_33 rfl (lv_at hl 0 rfl) ?_
                refine lv_iconst (v := iI 0) hx hb dX4_beginIt_34 (by decide) ?_
                refine z_callV0 (ci := 4) (qk := 0) (As := [.int (iI i1), .int (iI i2), .int (iI 0)]) (rest := [.int (iI (7 + i2)), .int (iI i1), .ref (q 0)]) hx hb hml hown hts hK hA hl.1 hP hD hS (c_X4_gen l E q z2 pa sl sv sp pd od pm ty om st wr i1 i2 0  (by first | omega | exact hz _ _ (by omega) | exact hz | exact ⟨by omega, by omega⟩) (by first | omega | exact hz _ _ (by omega) | exact hz | exact ⟨by omega, by omega⟩)) gX4_beginIt_X4_gen rfl ndX4_gen ⟨Nat.le_of_ble_eq_true rfl, Nat.le_of_ble_eq_true rfl⟩ rfl rfl rfl rfl rfl (Nat.le_of_ble_eq_true rfl) dX4_beginIt_35 ⟨Nat.le_of_ble_eq_true rfl, Nat.le_of_ble_eq_true rfl⟩ (fun x u H locs hpost hP hD hS => ?_)
                subst hpost
                have hP : va_P E.1 vwCl (wM E q z2 pa sl sv sp pd od pm ty om st wr) H := hP
                have hD : va_D A (wM E q z2 pa sl sv sp pd od pm ty om st wr) := hD
                refine lv_goto (tgt := 42) hx hb dX4_beginIt_38 (by decide) ?_
                refine z_callVv0 (ci := 4) (qk := 0) (As := [.int (iI i1), .int (iI (7 + i2)), .int (iI (zg z2 i1 (15 + 5 * i2 + 0)))]) (rest := []) hx hb hml hown hts hK hA hl.1 hP hD hS (c_X4_lay l E q z2 pa sl sv sp pd od pm ty om st wr i1 (7 + i2) (zg z2 i1 (15 + 5 * i2 + 0))  (by first | omega | exact hz _ _ (by omega) | exact hz | exact ⟨by omega, by omega⟩) (by first | omega | exact hz _ _ (by omega) | exact hz | exact ⟨by omega, by omega⟩)) gX4_beginIt_X4_lay rfl ndX4_lay ⟨Nat.le_of_ble_eq_true rfl, Nat.le_of_ble_eq_true rfl⟩ rfl rfl rfl rfl rfl (Nat.le_of_ble_eq_true rfl) dX4_beginIt_42 ⟨Nat.le_of_ble_eq_true rfl, Nat.le_of_ble_eq_true rfl⟩ (fun u H locs hpost hP hD hS => ?_)
                have hP : va_P E.1 vwCl (wM E q (zs z2 i1 (7 + i2) (zg z2 i1 (15 + 5 * i2 + 0))) pa sl sv sp pd od pm ty om st wr) H := hP
                have hD : va_D A (wM E q (zs z2 i1 (7 + i2) (zg z2 i1 (15 + 5 * i2 + 0))) pa sl sv sp pd od pm ty om st wr) := hD
                refine lv_iinc (v := iI (i2 + 1)) (lv' := [(2, .int (iI (i2 + 1))), (1, .int (iI i1)), (0, .ref (q 0))]) hx hb dX4_beginIt_45 hl (k := 0) rfl (iI_add _ _) (by decide) rfl (fun ls hl => ?_)
                refine lv_goto (tgt := 10) hx hb dX4_beginIt_48 (by decide) ?_
                exact ih10 (8 - (i2 + 1) : Int).toNat (by omega) (zs z2 i1 (7 + i2) (zg z2 i1 (15 + 5 * i2 + 0))) (i2 + 1) (by omega) (by rw [itr_step (by omega), ← hi10_0]; first | rw [if_pos (by omega)] | rw [if_neg (by omega)]) (by omega) (mNPre_zs hp2 (by omega)) _ _ ls hP hD hS (lv_sub hl [0, 1, 2] rfl)
        exact hloop10 (8 - 0 : Int).toNat z1 0 (by omega) (rfl) (by omega) (hi2_2) _ _ ls hP hD hS (lv_sub hl [0, 1, 2] rfl)
  exact hloop2 (6 - 0 : Int).toNat z 0 (by omega) (rfl) (by omega) (fun _ _ _ _ _ => rfl) _ _ ls hP hD hS (lv_sub hl [0, 1] rfl)

theorem ndX4_endIt : yX4_endIt.cls = RX4 ∧ yX4_endIt.cls ≠ "java/lang/invoke/MethodHandle" ∧ yX4_endIt.cls ≠ "java/lang/invoke/VarHandle" ∧ (parseMethodDescriptor yX4_endIt.desc).map (fun d => d.parameters.length) = some 1 := by decide +kernel
set_option maxRecDepth 100000 in
set_option maxHeartbeats 4000000 in
theorem c_X4_endIt (l : Launch) (E : zE) (q : Nat → Nat) (z pa sl sv sp pd od : Int → Int) (pm ty om st wr : Int) (w : Int) (h0 : 0 ≤ w ∧ w ≤ 1) (h1 : AG z) (h2 : CZ z) (h3 : rg (z 1)) : zF l E yX4_endIt wsX4_endIt 5 113 [.ref (q 0), .int (iI w)] (wM E q z pa sl sv sp pd od pm ty om st wr) (mMany7 (mFail z w)) (wM E q (mEnd z w) pa sl sv sp pd od pm ty om st wr) := by
  have hz := h2
  have hm := h1
  refine zC_of (cc := cX4_endIt) (maxL := 3) (by decide) rfl (Nat.le_of_ble_eq_true rfl) ?_
  intro p e s m below meth c ls A hx hb hr hts hown hlocks hml hK hA hS hP hD hl
  have hown : s.vm.findClass RX4 = some m.cls := hown
  have hl : lv_has ls 3 [(0, .ref (q 0)), (1, .int (iI w))] := hl
  have hinX4 : ∀ v ∈ u_ws RX4 TX4 12, v ∈ wsX4_endIt := by decide +kernel
  have hf_7 := hts (.fieldLink RX4 7 "GenerationNamesModel" "z" "[I") (by decide +kernel)
  refine lv_iconst (v := iI 0) hx hb dX4_endIt_0 (by decide) ?_
  refine lv_istore_n (lv' := [(2, .int (iI 0)), (0, .ref (q 0)), (1, .int (iI w))]) hx hb dX4_endIt_1 rfl hl (by decide) rfl (fun ls hl => ?_)
  have hloop2 : ∀ (n : Nat) (z1 : Int → Int) (i1 : Int) (hmu : 6 - i1 = (n : Int)) (hi2_0 : z1 = itr (fun g y => mFail1 y g) z (i1).toNat) (hi2_1 : 0 ≤ i1 ∧ i1 ≤ 6) (hi2_2 : i1 = 0 ∨ w = 0) (hi2_3 : AG z1) (hi2_4 : CZ z1) (hi2_5 : rg (z1 1)) (H : Heap) (locs : List Loc) (ls : Array Slot), va_P E.1 vwCl (wM E q z1 pa sl sv sp pd od pm ty om st wr) H → va_D A (wM E q z1 pa sl sv sp pd od pm ty om st wr) → va_S A s.heap H locs → lv_has ls 3 [(2, .int (iI i1)), (0, .ref (q 0)), (1, .int (iI w))] → W p l e (zR 5 113) s m ([.ref (q 0), .int (iI w)] : List Value).toArray below meth c H locs 0 0 (MQ below (zQ E A (S := Unit) (fun x _ => x = (mMany7 (mFail z w))) (fun _ => wM E q (mEnd z w) pa sl sv sp pd od pm ty om st wr)) ([.ref (q 0), .int (iI w)] : List Value).toArray s 0 0 A) (F0 m 2 ls []) := by
    intro n
    induction n using Nat.strongRecOn with
    | ind n ih2 =>
      intro z1 i1 hmu2 hi2_0 hi2_1 hi2_2 hi2_3 hi2_4 hi2_5 H locs ls hP hD hS hl
      have hm := hi2_3
      have hz := hi2_4
      have hr1 := hi2_5
      refine lv_iload_n hx hb dX4_endIt_2 rfl (lv_at hl 0 rfl) ?_
      refine lv_bipush (v := iI 6) hx hb dX4_endIt_3 (by decide) ?_
      refine z_icmp_ge (tgt := 38) hx hb dX4_endIt_5 (by decide) ⟨by first | omega | exact (hz _ _ (by omega)).1 | exact (hz _ _ (by omega)).2, by first | omega | exact (hz _ _ (by omega)).1 | exact (hz _ _ (by omega)).2⟩ ⟨by first | omega | exact (hz _ _ (by omega)).1 | exact (hz _ _ (by omega)).2, by first | omega | exact (hz _ _ (by omega)).1 | exact (hz _ _ (by omega)).2⟩ (fun c_5 => ?_) (fun c_5 => ?_)
      · refine lv_aload_n hx hb dX4_endIt_38 rfl (lv_at hl 1 rfl) ?_
        have hF : mFail z w = z1 := by first | (rw [mFail_n c_9, hi2_0, show i1 = 0 by omega]; rfl) | (rw [mFail_w (by omega), hi2_0, show i1 = 6 by omega]; rfl)
        refine z_callV0 (ci := 4) (qk := 0) (As := []) (rest := []) hx hb hml hown hts hK hA hl.1 hP hD hS (c_X4_madeMany l E q z1 pa sl sv sp pd od pm ty om st wr   (by first | omega | exact hz _ _ (by omega) | exact hz | exact ⟨by omega, by omega⟩ | exact hm _ (by omega) (by omega) | exact hm | exact hr1) (by first | omega | exact hz _ _ (by omega) | exact hz | exact ⟨by omega, by omega⟩ | exact hm _ (by omega) (by omega) | exact hm | exact hr1) (by first | omega | exact hz _ _ (by omega) | exact hz | exact ⟨by omega, by omega⟩ | exact hm _ (by omega) (by omega) | exact hm | exact hr1)) gX4_endIt_X4_madeMany rfl ndX4_madeMany ⟨Nat.le_of_ble_eq_true rfl, Nat.le_of_ble_eq_true rfl⟩ rfl rfl rfl rfl rfl (Nat.le_of_ble_eq_true rfl) dX4_endIt_39 ⟨Nat.le_of_ble_eq_true rfl, Nat.le_of_ble_eq_true rfl⟩ (fun x u H locs hpost hP hD hS => ?_)
        subst hpost
        have hP : va_P E.1 vwCl (wM E q z1 pa sl sv sp pd od pm ty om st wr) H := hP
        have hD : va_D A (wM E q z1 pa sl sv sp pd od pm ty om st wr) := hD
        refine lv_istore_n (lv' := [(2, .int (iI (mMany7 z1))), (0, .ref (q 0)), (1, .int (iI w))]) hx hb dX4_endIt_42 rfl hl (by decide) rfl (fun ls hl => ?_)
        refine lv_aload_n hx hb dX4_endIt_43 rfl (lv_at hl 1 rfl) ?_
        refine va_get (D := E.1) (cl := vwCl) (ci := 4) (v := .ref (q 1)) (C := RX4) (T := TX4) (N := 12) hx hb hts hinX4 hown hK hP 0 rfl rfl 0 (by decide) hf_7 (fun _ h => h) rfl dX4_endIt_44 ?_
        refine lv_iconst (v := iI 1) hx hb dX4_endIt_47 (by decide) ?_
        refine lv_iconst (v := iI 0) hx hb dX4_endIt_48 (by decide) ?_
        refine z_iast (D := E.1) (cl := vwCl) (tys := zT E) (f := z1) hx hb hK hP hD hS 1 0 rfl rfl (by omega) (by omega) (by omega) dX4_endIt_49 (fun H locs hP hD hS => ?_)
        have hP : va_P E.1 vwCl (wM E q (iU z1 1 0) pa sl sv sp pd od pm ty om st wr) H := hP
        have hD : va_D A (wM E q (iU z1 1 0) pa sl sv sp pd od pm ty om st wr) := hD
        refine lv_aload_n hx hb dX4_endIt_50 rfl (lv_at hl 1 rfl) ?_
        refine va_get (D := E.1) (cl := vwCl) (ci := 4) (v := .ref (q 1)) (C := RX4) (T := TX4) (N := 12) hx hb hts hinX4 hown hK hP 0 rfl rfl 0 (by decide) hf_7 (fun _ h => h) rfl dX4_endIt_51 ?_
        refine lv_iconst (v := iI 2) hx hb dX4_endIt_54 (by decide) ?_
        refine lv_iconst (v := iI 1) hx hb dX4_endIt_55 (by decide) ?_
        refine lv_iload_n hx hb dX4_endIt_56 rfl (lv_at hl 2 rfl) ?_
        refine z_isub hx hb dX4_endIt_57 ?_
        refine z_iast (D := E.1) (cl := vwCl) (tys := zT E) (f := (iU z1 1 0)) hx hb hK hP hD hS 1 0 rfl rfl (by omega) (by omega) (by omega) dX4_endIt_58 (fun H locs hP hD hS => ?_)
        have hP : va_P E.1 vwCl (wM E q (iU (iU z1 1 0) 2 (1 - w)) pa sl sv sp pd od pm ty om st wr) H := hP
        have hD : va_D A (wM E q (iU (iU z1 1 0) 2 (1 - w)) pa sl sv sp pd od pm ty om st wr) := hD
        refine lv_aload_n hx hb dX4_endIt_59 rfl (lv_at hl 1 rfl) ?_
        refine va_get (D := E.1) (cl := vwCl) (ci := 4) (v := .ref (q 1)) (C := RX4) (T := TX4) (N := 12) hx hb hts hinX4 hown hK hP 0 rfl rfl 0 (by decide) hf_7 (fun _ h => h) rfl dX4_endIt_60 ?_
        refine lv_iconst (v := iI 3) hx hb dX4_endIt_63 (by decide) ?_
        refine lv_dup2_11 hx hb dX4_endIt_64 rfl rfl ?_
        refine z_iald (D := E.1) (cl := vwCl) (tys := zT E) (f := (iU (iU z1 1 0) 2 (1 - w))) hx hb hK hP 1 0 rfl rfl (by omega) (by omega) (by omega) dX4_endIt_65 ?_
        refine lv_iconst (v := iI 1) hx hb dX4_endIt_66 (by decide) ?_
        refine lv_iload_n hx hb dX4_endIt_67 rfl (lv_at hl 2 rfl) ?_
        refine z_isub hx hb dX4_endIt_68 ?_
        refine z_iadd hx hb dX4_endIt_69 ?_
        refine z_iast (D := E.1) (cl := vwCl) (tys := zT E) (f := (iU (iU z1 1 0) 2 (1 - w))) hx hb hK hP hD hS 1 0 rfl rfl (by omega) (by omega) (by omega) dX4_endIt_70 (fun H locs hP hD hS => ?_)
        have hP : va_P E.1 vwCl (wM E q (iU (iU (iU z1 1 0) 2 (1 - w)) 3 (((iU (iU z1 1 0) 2 (1 - w)) 3) + (1 - w))) pa sl sv sp pd od pm ty om st wr) H := hP
        have hD : va_D A (wM E q (iU (iU (iU z1 1 0) 2 (1 - w)) 3 (((iU (iU z1 1 0) 2 (1 - w)) 3) + (1 - w))) pa sl sv sp pd od pm ty om st wr) := hD
        refine lv_iload_n hx hb dX4_endIt_71 rfl (lv_at hl 0 rfl) ?_
        have eqc_z : (mEnd z w) = (iU (iU (iU z1 1 0) 2 (1 - w)) 3 (((iU (iU z1 1 0) 2 (1 - w)) 3) + (1 - w))) := by unfold mEnd; rw [hF]; rfl
        have hP : va_P E.1 vwCl (wM E q (mEnd z w) pa sl sv sp pd od pm ty om st wr) H := by rw [eqc_z]; exact hP
        have hD : va_D A (wM E q (mEnd z w) pa sl sv sp pd od pm ty om st wr) := by rw [eqc_z]; exact hD
        exact z_iret hx hb hr hlocks hK hS () (by rw [hF]) hP hD dX4_endIt_72
      · refine lv_iload_n hx hb dX4_endIt_8 rfl (lv_at hl 2 rfl) ?_
        refine z_if_ne (tgt := 38) hx hb dX4_endIt_9 (by decide) ⟨by first | omega | exact (hz _ _ (by omega)).1 | exact (hz _ _ (by omega)).2, by first | omega | exact (hz _ _ (by omega)).1 | exact (hz _ _ (by omega)).2⟩ (fun c_9 => ?_) (fun c_9 => ?_)
        · refine lv_aload_n hx hb dX4_endIt_38 rfl (lv_at hl 1 rfl) ?_
          have hF : mFail z w = z1 := by first | (rw [mFail_n c_9, hi2_0, show i1 = 0 by omega]; rfl) | (rw [mFail_w (by omega), hi2_0, show i1 = 6 by omega]; rfl)
          refine z_callV0 (ci := 4) (qk := 0) (As := []) (rest := []) hx hb hml hown hts hK hA hl.1 hP hD hS (c_X4_madeMany l E q z1 pa sl sv sp pd od pm ty om st wr   (by first | omega | exact hz _ _ (by omega) | exact hz | exact ⟨by omega, by omega⟩ | exact hm _ (by omega) (by omega) | exact hm | exact hr1) (by first | omega | exact hz _ _ (by omega) | exact hz | exact ⟨by omega, by omega⟩ | exact hm _ (by omega) (by omega) | exact hm | exact hr1) (by first | omega | exact hz _ _ (by omega) | exact hz | exact ⟨by omega, by omega⟩ | exact hm _ (by omega) (by omega) | exact hm | exact hr1)) gX4_endIt_X4_madeMany rfl ndX4_madeMany ⟨Nat.le_of_ble_eq_true rfl, Nat.le_of_ble_eq_true rfl⟩ rfl rfl rfl rfl rfl (Nat.le_of_ble_eq_true rfl) dX4_endIt_39 ⟨Nat.le_of_ble_eq_true rfl, Nat.le_of_ble_eq_true rfl⟩ (fun x u H locs hpost hP hD hS => ?_)
          subst hpost
          have hP : va_P E.1 vwCl (wM E q z1 pa sl sv sp pd od pm ty om st wr) H := hP
          have hD : va_D A (wM E q z1 pa sl sv sp pd od pm ty om st wr) := hD
          refine lv_istore_n (lv' := [(2, .int (iI (mMany7 z1))), (0, .ref (q 0)), (1, .int (iI w))]) hx hb dX4_endIt_42 rfl hl (by decide) rfl (fun ls hl => ?_)
          refine lv_aload_n hx hb dX4_endIt_43 rfl (lv_at hl 1 rfl) ?_
          refine va_get (D := E.1) (cl := vwCl) (ci := 4) (v := .ref (q 1)) (C := RX4) (T := TX4) (N := 12) hx hb hts hinX4 hown hK hP 0 rfl rfl 0 (by decide) hf_7 (fun _ h => h) rfl dX4_endIt_44 ?_
          refine lv_iconst (v := iI 1) hx hb dX4_endIt_47 (by decide) ?_
          refine lv_iconst (v := iI 0) hx hb dX4_endIt_48 (by decide) ?_
          refine z_iast (D := E.1) (cl := vwCl) (tys := zT E) (f := z1) hx hb hK hP hD hS 1 0 rfl rfl (by omega) (by omega) (by omega) dX4_endIt_49 (fun H locs hP hD hS => ?_)
          have hP : va_P E.1 vwCl (wM E q (iU z1 1 0) pa sl sv sp pd od pm ty om st wr) H := hP
          have hD : va_D A (wM E q (iU z1 1 0) pa sl sv sp pd od pm ty om st wr) := hD
          refine lv_aload_n hx hb dX4_endIt_50 rfl (lv_at hl 1 rfl) ?_
          refine va_get (D := E.1) (cl := vwCl) (ci := 4) (v := .ref (q 1)) (C := RX4) (T := TX4) (N := 12) hx hb hts hinX4 hown hK hP 0 rfl rfl 0 (by decide) hf_7 (fun _ h => h) rfl dX4_endIt_51 ?_
          refine lv_iconst (v := iI 2) hx hb dX4_endIt_54 (by decide) ?_
          refine lv_iconst (v := iI 1) hx hb dX4_endIt_55 (by decide) ?_
          refine lv_iload_n hx hb dX4_endIt_56 rfl (lv_at hl 2 rfl) ?_
          refine z_isub hx hb dX4_endIt_57 ?_
          refine z_iast (D := E.1) (cl := vwCl) (tys := zT E) (f := (iU z1 1 0)) hx hb hK hP hD hS 1 0 rfl rfl (by omega) (by omega) (by omega) dX4_endIt_58 (fun H locs hP hD hS => ?_)
          have hP : va_P E.1 vwCl (wM E q (iU (iU z1 1 0) 2 (1 - w)) pa sl sv sp pd od pm ty om st wr) H := hP
          have hD : va_D A (wM E q (iU (iU z1 1 0) 2 (1 - w)) pa sl sv sp pd od pm ty om st wr) := hD
          refine lv_aload_n hx hb dX4_endIt_59 rfl (lv_at hl 1 rfl) ?_
          refine va_get (D := E.1) (cl := vwCl) (ci := 4) (v := .ref (q 1)) (C := RX4) (T := TX4) (N := 12) hx hb hts hinX4 hown hK hP 0 rfl rfl 0 (by decide) hf_7 (fun _ h => h) rfl dX4_endIt_60 ?_
          refine lv_iconst (v := iI 3) hx hb dX4_endIt_63 (by decide) ?_
          refine lv_dup2_11 hx hb dX4_endIt_64 rfl rfl ?_
          refine z_iald (D := E.1) (cl := vwCl) (tys := zT E) (f := (iU (iU z1 1 0) 2 (1 - w))) hx hb hK hP 1 0 rfl rfl (by omega) (by omega) (by omega) dX4_endIt_65 ?_
          refine lv_iconst (v := iI 1) hx hb dX4_endIt_66 (by decide) ?_
          refine lv_iload_n hx hb dX4_endIt_67 rfl (lv_at hl 2 rfl) ?_
          refine z_isub hx hb dX4_endIt_68 ?_
          refine z_iadd hx hb dX4_endIt_69 ?_
          refine z_iast (D := E.1) (cl := vwCl) (tys := zT E) (f := (iU (iU z1 1 0) 2 (1 - w))) hx hb hK hP hD hS 1 0 rfl rfl (by omega) (by omega) (by omega) dX4_endIt_70 (fun H locs hP hD hS => ?_)
          have hP : va_P E.1 vwCl (wM E q (iU (iU (iU z1 1 0) 2 (1 - w)) 3 (((iU (iU z1 1 0) 2 (1 - w)) 3) + (1 - w))) pa sl sv sp pd od pm ty om st wr) H := hP
          have hD : va_D A (wM E q (iU (iU (iU z1 1 0) 2 (1 - w)) 3 (((iU (iU z1 1 0) 2 (1 - w)) 3) + (1 - w))) pa sl sv sp pd od pm ty om st wr) := hD
          refine lv_iload_n hx hb dX4_endIt_71 rfl (lv_at hl 0 rfl) ?_
          have eqc_z : (mEnd z w) = (iU (iU (iU z1 1 0) 2 (1 - w)) 3 (((iU (iU z1 1 0) 2 (1 - w)) 3) + (1 - w))) := by unfold mEnd; rw [hF]; rfl
          have hP : va_P E.1 vwCl (wM E q (mEnd z w) pa sl sv sp pd od pm ty om st wr) H := by rw [eqc_z]; exact hP
          have hD : va_D A (wM E q (mEnd z w) pa sl sv sp pd od pm ty om st wr) := by rw [eqc_z]; exact hD
          exact z_iret hx hb hr hlocks hK hS () (by rw [hF]) hP hD dX4_endIt_72
        · refine lv_aload_n hx hb dX4_endIt_12 rfl (lv_at hl 1 rfl) ?_
          refine lv_iload_n hx hb dX4_endIt_13 rfl (lv_at hl 0 rfl) ?_
          have hm2 := hm i1 (by omega) (by omega)
          have hp := mMade_rg (z := z1) (g := i1) hm2.1
          refine z_callV0 (ci := 4) (qk := 0) (As := [.int (iI i1)]) (rest := []) hx hb hml hown hts hK hA hl.1 hP hD hS (c_X4_madePlace l E q z1 pa sl sv sp pd od pm ty om st wr i1  (by first | omega | exact hz _ _ (by omega) | exact hz | exact ⟨by omega, by omega⟩ | exact hm _ (by omega) (by omega) | exact hm | exact hr1) (by first | omega | exact hz _ _ (by omega) | exact hz | exact ⟨by omega, by omega⟩ | exact hm _ (by omega) (by omega) | exact hm | exact hr1) (by first | omega | exact hz _ _ (by omega) | exact hz | exact ⟨by omega, by omega⟩ | exact hm _ (by omega) (by omega) | exact hm | exact hr1) (by first | omega | exact hz _ _ (by omega) | exact hz | exact ⟨by omega, by omega⟩ | exact hm _ (by omega) (by omega) | exact hm | exact hr1)) gX4_endIt_X4_madePlace rfl ndX4_madePlace ⟨Nat.le_of_ble_eq_true rfl, Nat.le_of_ble_eq_true rfl⟩ rfl rfl rfl rfl rfl (Nat.le_of_ble_eq_true rfl) dX4_endIt_14 ⟨Nat.le_of_ble_eq_true rfl, Nat.le_of_ble_eq_true rfl⟩ (fun x u H locs hpost hP hD hS => ?_)
          subst hpost
          have hP : va_P E.1 vwCl (wM E q z1 pa sl sv sp pd od pm ty om st wr) H := hP
          have hD : va_D A (wM E q z1 pa sl sv sp pd od pm ty om st wr) := hD
          refine lv_bipush (v := iI (-6)) hx hb dX4_endIt_17 (by decide) ?_
          refine z_icmp_eq (tgt := 32) hx hb dX4_endIt_19 (by decide) ⟨by first | omega | exact (hz _ _ (by omega)).1 | exact (hz _ _ (by omega)).2, by first | omega | exact (hz _ _ (by omega)).1 | exact (hz _ _ (by omega)).2⟩ ⟨by first | omega | exact (hz _ _ (by omega)).1 | exact (hz _ _ (by omega)).2, by first | omega | exact (hz _ _ (by omega)).1 | exact (hz _ _ (by omega)).2⟩ (fun c_19 => ?_) (fun c_19 => ?_)
          · refine lv_iinc (v := iI (i1 + 1)) (lv' := [(2, .int (iI (i1 + 1))), (0, .ref (q 0)), (1, .int (iI w))]) hx hb dX4_endIt_32 hl (k := 0) rfl (iI_add _ _) (by decide) rfl (fun ls hl => ?_)
            refine lv_goto (tgt := 2) hx hb dX4_endIt_35 (by decide) ?_
            exact ih2 (6 - (i1 + 1) : Int).toNat (by omega) z1 (i1 + 1) (by omega) (by rw [itr_step (by omega), ← hi2_0]; unfold mFail1; first | rw [if_pos c_19] | rw [if_neg c_19]) (by omega) (Or.inr c_9) (by first | exact hm | exact AG_mDel hm (by omega) (by omega)) (by first | exact hz | exact CZ_mDel hz (by omega) hm2 (by omega)) (by first | exact hr1 | (rw [mDel_hd (by omega) (by omega) (by omega)]; exact hr1)) _ _ ls hP hD hS (lv_sub hl [0, 1, 2] rfl)
          · refine lv_aload_n hx hb dX4_endIt_22 rfl (lv_at hl 1 rfl) ?_
            refine lv_iload_n hx hb dX4_endIt_23 rfl (lv_at hl 0 rfl) ?_
            refine lv_aload_n hx hb dX4_endIt_24 rfl (lv_at hl 1 rfl) ?_
            refine lv_iload_n hx hb dX4_endIt_25 rfl (lv_at hl 0 rfl) ?_
            refine z_callV0 (ci := 4) (qk := 0) (As := [.int (iI i1)]) (rest := [.int (iI i1), .ref (q 0)]) hx hb hml hown hts hK hA hl.1 hP hD hS (c_X4_madePlace l E q z1 pa sl sv sp pd od pm ty om st wr i1  (by first | omega | exact hz _ _ (by omega) | exact hz | exact ⟨by omega, by omega⟩ | exact hm _ (by omega) (by omega) | exact hm | exact hr1) (by first | omega | exact hz _ _ (by omega) | exact hz | exact ⟨by omega, by omega⟩ | exact hm _ (by omega) (by omega) | exact hm | exact hr1) (by first | omega | exact hz _ _ (by omega) | exact hz | exact ⟨by omega, by omega⟩ | exact hm _ (by omega) (by omega) | exact hm | exact hr1) (by first | omega | exact hz _ _ (by omega) | exact hz | exact ⟨by omega, by omega⟩ | exact hm _ (by omega) (by omega) | exact hm | exact hr1)) gX4_endIt_X4_madePlace rfl ndX4_madePlace ⟨Nat.le_of_ble_eq_true rfl, Nat.le_of_ble_eq_true rfl⟩ rfl rfl rfl rfl rfl (Nat.le_of_ble_eq_true rfl) dX4_endIt_26 ⟨Nat.le_of_ble_eq_true rfl, Nat.le_of_ble_eq_true rfl⟩ (fun x u H locs hpost hP hD hS => ?_)
            subst hpost
            have hP : va_P E.1 vwCl (wM E q z1 pa sl sv sp pd od pm ty om st wr) H := hP
            have hD : va_D A (wM E q z1 pa sl sv sp pd od pm ty om st wr) := hD
            refine z_callVv0 (ci := 4) (qk := 0) (As := [.int (iI i1), .int (iI (mMade z1 i1))]) (rest := []) hx hb hml hown hts hK hA hl.1 hP hD hS (c_X4_deleteAt l E q z1 pa sl sv sp pd od pm ty om st wr i1 (mMade z1 i1)  (by first | omega | exact hz _ _ (by omega) | exact hz | exact ⟨by omega, by omega⟩ | exact hm _ (by omega) (by omega) | exact hm | exact hr1) (by first | omega | exact hz _ _ (by omega) | exact hz | exact ⟨by omega, by omega⟩ | exact hm _ (by omega) (by omega) | exact hm | exact hr1) (by first | omega | exact hz _ _ (by omega) | exact hz | exact ⟨by omega, by omega⟩ | exact hm _ (by omega) (by omega) | exact hm | exact hr1) (by first | omega | exact hz _ _ (by omega) | exact hz | exact ⟨by omega, by omega⟩ | exact hm _ (by omega) (by omega) | exact hm | exact hr1)) gX4_endIt_X4_deleteAt rfl ndX4_deleteAt ⟨Nat.le_of_ble_eq_true rfl, Nat.le_of_ble_eq_true rfl⟩ rfl rfl rfl rfl rfl (Nat.le_of_ble_eq_true rfl) dX4_endIt_29 ⟨Nat.le_of_ble_eq_true rfl, Nat.le_of_ble_eq_true rfl⟩ (fun u H locs hpost hP hD hS => ?_)
            have hP : va_P E.1 vwCl (wM E q (mDel z1 i1 (mMade z1 i1)) pa sl sv sp pd od pm ty om st wr) H := hP
            have hD : va_D A (wM E q (mDel z1 i1 (mMade z1 i1)) pa sl sv sp pd od pm ty om st wr) := hD
            refine lv_iinc (v := iI (i1 + 1)) (lv' := [(2, .int (iI (i1 + 1))), (0, .ref (q 0)), (1, .int (iI w))]) hx hb dX4_endIt_32 hl (k := 0) rfl (iI_add _ _) (by decide) rfl (fun ls hl => ?_)
            refine lv_goto (tgt := 2) hx hb dX4_endIt_35 (by decide) ?_
            exact ih2 (6 - (i1 + 1) : Int).toNat (by omega) (mDel z1 i1 (mMade z1 i1)) (i1 + 1) (by omega) (by rw [itr_step (by omega), ← hi2_0]; unfold mFail1; first | rw [if_pos c_19] | rw [if_neg c_19]) (by omega) (Or.inr c_9) (by first | exact hm | exact AG_mDel hm (by omega) (by omega)) (by first | exact hz | exact CZ_mDel hz (by omega) hm2 (by omega)) (by first | exact hr1 | (rw [mDel_hd (by omega) (by omega) (by omega)]; exact hr1)) _ _ ls hP hD hS (lv_sub hl [0, 1, 2] rfl)
  exact hloop2 (6 - 0 : Int).toNat z 0 (by omega) (rfl) (by omega) (by omega) (hm) (hz) (h3) _ _ ls hP hD hS (lv_sub hl [0, 1, 2] rfl)

theorem ndX4_canWrite : yX4_canWrite.cls = RX4 ∧ yX4_canWrite.cls ≠ "java/lang/invoke/MethodHandle" ∧ yX4_canWrite.cls ≠ "java/lang/invoke/VarHandle" ∧ (parseMethodDescriptor yX4_canWrite.desc).map (fun d => d.parameters.length) = some 2 := by decide +kernel
set_option maxRecDepth 100000 in
set_option maxHeartbeats 4000000 in
theorem c_X4_canWrite (l : Launch) (E : zE) (q : Nat → Nat) (z pa sl sv sp pd od : Int → Int) (pm ty om st wr : Int) (g : Int) (n : Int) (h0 : 0 ≤ g ∧ g ≤ 5) (h1 : -7 ≤ n ∧ n ≤ 1) (h2 : 0 ≤ zg z g 1 ∧ zg z g 1 ≤ 8) (h3 : CZ z) (h4 : rg (z 1)) : zF l E yX4_canWrite wsX4_canWrite 4 92 [.ref (q 0), .int (iI g), .int (iI n)] (wM E q z pa sl sv sp pd od pm ty om st wr) (zb ((n = 1 ∧ (¬ z 1 = 1 ∨ zg z g 5 = 0)) ∨ ¬ mTold z g n = -6)) (wM E q z pa sl sv sp pd od pm ty om st wr) := by
  have hz := h3
  have ht := mTold_rg (z := z) (g := g) (n := n) h2.1
  refine zC_of (cc := cX4_canWrite) (maxL := 4) (by decide) rfl (Nat.le_of_ble_eq_true rfl) ?_
  intro p e s m below meth c ls A hx hb hr hts hown hlocks hml hK hA hS hP hD hl
  have hown : s.vm.findClass RX4 = some m.cls := hown
  have hl : lv_has ls 4 [(0, .ref (q 0)), (1, .int (iI g)), (2, .int (iI n))] := hl
  refine lv_iload_n hx hb dX4_canWrite_0 rfl (lv_at hl 2 rfl) ?_
  refine lv_iconst (v := iI 1) hx hb dX4_canWrite_1 (by decide) ?_
  refine z_icmp_ne (tgt := 25) hx hb dX4_canWrite_2 (by decide) ⟨by first | omega | exact (hz _ _ (by omega)).1 | exact (hz _ _ (by omega)).2, by first | omega | exact (hz _ _ (by omega)).1 | exact (hz _ _ (by omega)).2⟩ ⟨by first | omega | exact (hz _ _ (by omega)).1 | exact (hz _ _ (by omega)).2, by first | omega | exact (hz _ _ (by omega)).1 | exact (hz _ _ (by omega)).2⟩ (fun c_2 => ?_) (fun c_2 => ?_)
  · refine lv_iconst (v := iI 0) hx hb dX4_canWrite_25 (by decide) ?_
    refine lv_istore_n (lv' := [(3, .int (iI 0)), (0, .ref (q 0)), (1, .int (iI g)), (2, .int (iI n))]) hx hb dX4_canWrite_26 rfl hl (by decide) rfl (fun ls hl => ?_)
    refine lv_iload_n hx hb dX4_canWrite_27 rfl (lv_at hl 0 rfl) ?_
    refine z_if_ne (tgt := 42) hx hb dX4_canWrite_28 (by decide) ⟨by first | omega | exact (hz _ _ (by omega)).1 | exact (hz _ _ (by omega)).2, by first | omega | exact (hz _ _ (by omega)).1 | exact (hz _ _ (by omega)).2⟩ (fun c_28 => absurd c_28 (by omega)) (fun c_28 => ?_)
    refine lv_aload_n hx hb dX4_canWrite_31 rfl (lv_at hl 1 rfl) ?_
    refine lv_iload_n hx hb dX4_canWrite_32 rfl (lv_at hl 2 rfl) ?_
    refine lv_iload_n hx hb dX4_canWrite_33 rfl (lv_at hl 3 rfl) ?_
    refine z_callV0 (ci := 4) (qk := 0) (As := [.int (iI g), .int (iI n)]) (rest := []) hx hb hml hown hts hK hA hl.1 hP hD hS (c_X4_told l E q z pa sl sv sp pd od pm ty om st wr g n  (by first | omega | exact hz _ _ (by omega) | exact hz | exact ⟨by omega, by omega⟩) (by first | omega | exact hz _ _ (by omega) | exact hz | exact ⟨by omega, by omega⟩) (by first | omega | exact hz _ _ (by omega) | exact hz | exact ⟨by omega, by omega⟩) (by first | omega | exact hz _ _ (by omega) | exact hz | exact ⟨by omega, by omega⟩) (by first | omega | exact hz _ _ (by omega) | exact hz | exact ⟨by omega, by omega⟩)) gX4_canWrite_X4_told rfl ndX4_told ⟨Nat.le_of_ble_eq_true rfl, Nat.le_of_ble_eq_true rfl⟩ rfl rfl rfl rfl rfl (Nat.le_of_ble_eq_true rfl) dX4_canWrite_34 ⟨Nat.le_of_ble_eq_true rfl, Nat.le_of_ble_eq_true rfl⟩ (fun x u H locs hpost hP hD hS => ?_)
    subst hpost
    have hP : va_P E.1 vwCl (wM E q z pa sl sv sp pd od pm ty om st wr) H := hP
    have hD : va_D A (wM E q z pa sl sv sp pd od pm ty om st wr) := hD
    refine lv_bipush (v := iI (-6)) hx hb dX4_canWrite_37 (by decide) ?_
    refine z_icmp_eq (tgt := 46) hx hb dX4_canWrite_39 (by decide) ⟨by first | omega | exact (hz _ _ (by omega)).1 | exact (hz _ _ (by omega)).2, by first | omega | exact (hz _ _ (by omega)).1 | exact (hz _ _ (by omega)).2⟩ ⟨by first | omega | exact (hz _ _ (by omega)).1 | exact (hz _ _ (by omega)).2, by first | omega | exact (hz _ _ (by omega)).1 | exact (hz _ _ (by omega)).2⟩ (fun c_39 => ?_) (fun c_39 => ?_)
    · refine lv_iconst (v := iI 0) hx hb dX4_canWrite_46 (by decide) ?_
      exact z_zret hx hb hr hlocks hK hS (Or.inl rfl) () (by first | rfl | trivial | exact zb_t' (by omega) | exact zb_f' (by omega) | omega) hP hD dX4_canWrite_47
    · refine lv_iconst (v := iI 1) hx hb dX4_canWrite_42 (by decide) ?_
      refine lv_goto (tgt := 47) hx hb dX4_canWrite_43 (by decide) ?_
      exact z_zret hx hb hr hlocks hK hS (Or.inr rfl) () (by first | rfl | trivial | exact zb_t' (by omega) | exact zb_f' (by omega) | omega) hP hD dX4_canWrite_47
  · refine lv_aload_n hx hb dX4_canWrite_5 rfl (lv_at hl 0 rfl) ?_
    refine z_callV0 (ci := 4) (qk := 0) (As := []) (rest := []) hx hb hml hown hts hK hA hl.1 hP hD hS (c_X4_runs l E q z pa sl sv sp pd od pm ty om st wr   (by first | omega | exact hz _ _ (by omega) | exact hz | exact ⟨by omega, by omega⟩)) gX4_canWrite_X4_runs rfl ndX4_runs ⟨Nat.le_of_ble_eq_true rfl, Nat.le_of_ble_eq_true rfl⟩ rfl rfl rfl rfl rfl (Nat.le_of_ble_eq_true rfl) dX4_canWrite_6 ⟨Nat.le_of_ble_eq_true rfl, Nat.le_of_ble_eq_true rfl⟩ (fun x u H locs hpost hP hD hS => ?_)
    subst hpost
    have hP : va_P E.1 vwCl (wM E q z pa sl sv sp pd od pm ty om st wr) H := hP
    have hD : va_D A (wM E q z pa sl sv sp pd od pm ty om st wr) := hD
    refine z_ifb_eq (tgt := 21) hx hb dX4_canWrite_9 (by decide) (fun c_9 => ?_) (fun c_9 => ?_)
    · refine lv_iconst (v := iI 1) hx hb dX4_canWrite_21 (by decide) ?_
      refine lv_goto (tgt := 26) hx hb dX4_canWrite_22 (by decide) ?_
      refine lv_istore_n (lv' := [(3, .int (iI 1)), (0, .ref (q 0)), (1, .int (iI g)), (2, .int (iI n))]) hx hb dX4_canWrite_26 rfl hl (by decide) rfl (fun ls hl => ?_)
      refine lv_iload_n hx hb dX4_canWrite_27 rfl (lv_at hl 0 rfl) ?_
      refine z_if_ne (tgt := 42) hx hb dX4_canWrite_28 (by decide) ⟨by first | omega | exact (hz _ _ (by omega)).1 | exact (hz _ _ (by omega)).2, by first | omega | exact (hz _ _ (by omega)).1 | exact (hz _ _ (by omega)).2⟩ (fun c_28 => ?_) (fun c_28 => absurd c_28 (by omega))
      refine lv_iconst (v := iI 1) hx hb dX4_canWrite_42 (by decide) ?_
      refine lv_goto (tgt := 47) hx hb dX4_canWrite_43 (by decide) ?_
      exact z_zret hx hb hr hlocks hK hS (Or.inr rfl) () (by first | rfl | trivial | exact zb_t' (by omega) | exact zb_f' (by omega) | omega) hP hD dX4_canWrite_47
    · refine lv_aload_n hx hb dX4_canWrite_12 rfl (lv_at hl 0 rfl) ?_
      refine lv_iload_n hx hb dX4_canWrite_13 rfl (lv_at hl 1 rfl) ?_
      refine lv_iconst (v := iI 5) hx hb dX4_canWrite_14 (by decide) ?_
      refine z_callV0 (ci := 4) (qk := 0) (As := [.int (iI g), .int (iI 5)]) (rest := []) hx hb hml hown hts hK hA hl.1 hP hD hS (c_X4_of l E q z pa sl sv sp pd od pm ty om st wr g 5  (by first | omega | exact hz _ _ (by omega) | exact hz | exact ⟨by omega, by omega⟩) (by first | omega | exact hz _ _ (by omega) | exact hz | exact ⟨by omega, by omega⟩)) gX4_canWrite_X4_of rfl ndX4_of ⟨Nat.le_of_ble_eq_true rfl, Nat.le_of_ble_eq_true rfl⟩ rfl rfl rfl rfl rfl (Nat.le_of_ble_eq_true rfl) dX4_canWrite_15 ⟨Nat.le_of_ble_eq_true rfl, Nat.le_of_ble_eq_true rfl⟩ (fun x u H locs hpost hP hD hS => ?_)
      subst hpost
      have hP : va_P E.1 vwCl (wM E q z pa sl sv sp pd od pm ty om st wr) H := hP
      have hD : va_D A (wM E q z pa sl sv sp pd od pm ty om st wr) := hD
      refine z_if_ne (tgt := 25) hx hb dX4_canWrite_18 (by decide) ⟨by first | omega | exact (hz _ _ (by omega)).1 | exact (hz _ _ (by omega)).2, by first | omega | exact (hz _ _ (by omega)).1 | exact (hz _ _ (by omega)).2⟩ (fun c_18 => ?_) (fun c_18 => ?_)
      · refine lv_iconst (v := iI 0) hx hb dX4_canWrite_25 (by decide) ?_
        refine lv_istore_n (lv' := [(3, .int (iI 0)), (0, .ref (q 0)), (1, .int (iI g)), (2, .int (iI n))]) hx hb dX4_canWrite_26 rfl hl (by decide) rfl (fun ls hl => ?_)
        refine lv_iload_n hx hb dX4_canWrite_27 rfl (lv_at hl 0 rfl) ?_
        refine z_if_ne (tgt := 42) hx hb dX4_canWrite_28 (by decide) ⟨by first | omega | exact (hz _ _ (by omega)).1 | exact (hz _ _ (by omega)).2, by first | omega | exact (hz _ _ (by omega)).1 | exact (hz _ _ (by omega)).2⟩ (fun c_28 => absurd c_28 (by omega)) (fun c_28 => ?_)
        refine lv_aload_n hx hb dX4_canWrite_31 rfl (lv_at hl 1 rfl) ?_
        refine lv_iload_n hx hb dX4_canWrite_32 rfl (lv_at hl 2 rfl) ?_
        refine lv_iload_n hx hb dX4_canWrite_33 rfl (lv_at hl 3 rfl) ?_
        refine z_callV0 (ci := 4) (qk := 0) (As := [.int (iI g), .int (iI n)]) (rest := []) hx hb hml hown hts hK hA hl.1 hP hD hS (c_X4_told l E q z pa sl sv sp pd od pm ty om st wr g n  (by first | omega | exact hz _ _ (by omega) | exact hz | exact ⟨by omega, by omega⟩) (by first | omega | exact hz _ _ (by omega) | exact hz | exact ⟨by omega, by omega⟩) (by first | omega | exact hz _ _ (by omega) | exact hz | exact ⟨by omega, by omega⟩) (by first | omega | exact hz _ _ (by omega) | exact hz | exact ⟨by omega, by omega⟩) (by first | omega | exact hz _ _ (by omega) | exact hz | exact ⟨by omega, by omega⟩)) gX4_canWrite_X4_told rfl ndX4_told ⟨Nat.le_of_ble_eq_true rfl, Nat.le_of_ble_eq_true rfl⟩ rfl rfl rfl rfl rfl (Nat.le_of_ble_eq_true rfl) dX4_canWrite_34 ⟨Nat.le_of_ble_eq_true rfl, Nat.le_of_ble_eq_true rfl⟩ (fun x u H locs hpost hP hD hS => ?_)
        subst hpost
        have hP : va_P E.1 vwCl (wM E q z pa sl sv sp pd od pm ty om st wr) H := hP
        have hD : va_D A (wM E q z pa sl sv sp pd od pm ty om st wr) := hD
        refine lv_bipush (v := iI (-6)) hx hb dX4_canWrite_37 (by decide) ?_
        refine z_icmp_eq (tgt := 46) hx hb dX4_canWrite_39 (by decide) ⟨by first | omega | exact (hz _ _ (by omega)).1 | exact (hz _ _ (by omega)).2, by first | omega | exact (hz _ _ (by omega)).1 | exact (hz _ _ (by omega)).2⟩ ⟨by first | omega | exact (hz _ _ (by omega)).1 | exact (hz _ _ (by omega)).2, by first | omega | exact (hz _ _ (by omega)).1 | exact (hz _ _ (by omega)).2⟩ (fun c_39 => ?_) (fun c_39 => ?_)
        · refine lv_iconst (v := iI 0) hx hb dX4_canWrite_46 (by decide) ?_
          exact z_zret hx hb hr hlocks hK hS (Or.inl rfl) () (by first | rfl | trivial | exact zb_t' (by omega) | exact zb_f' (by omega) | omega) hP hD dX4_canWrite_47
        · refine lv_iconst (v := iI 1) hx hb dX4_canWrite_42 (by decide) ?_
          refine lv_goto (tgt := 47) hx hb dX4_canWrite_43 (by decide) ?_
          exact z_zret hx hb hr hlocks hK hS (Or.inr rfl) () (by first | rfl | trivial | exact zb_t' (by omega) | exact zb_f' (by omega) | omega) hP hD dX4_canWrite_47
      · refine lv_iconst (v := iI 1) hx hb dX4_canWrite_21 (by decide) ?_
        refine lv_goto (tgt := 26) hx hb dX4_canWrite_22 (by decide) ?_
        refine lv_istore_n (lv' := [(3, .int (iI 1)), (0, .ref (q 0)), (1, .int (iI g)), (2, .int (iI n))]) hx hb dX4_canWrite_26 rfl hl (by decide) rfl (fun ls hl => ?_)
        refine lv_iload_n hx hb dX4_canWrite_27 rfl (lv_at hl 0 rfl) ?_
        refine z_if_ne (tgt := 42) hx hb dX4_canWrite_28 (by decide) ⟨by first | omega | exact (hz _ _ (by omega)).1 | exact (hz _ _ (by omega)).2, by first | omega | exact (hz _ _ (by omega)).1 | exact (hz _ _ (by omega)).2⟩ (fun c_28 => ?_) (fun c_28 => absurd c_28 (by omega))
        refine lv_iconst (v := iI 1) hx hb dX4_canWrite_42 (by decide) ?_
        refine lv_goto (tgt := 47) hx hb dX4_canWrite_43 (by decide) ?_
        exact z_zret hx hb hr hlocks hK hS (Or.inr rfl) () (by first | rfl | trivial | exact zb_t' (by omega) | exact zb_f' (by omega) | omega) hP hD dX4_canWrite_47

theorem ndX4_writeIt : yX4_writeIt.cls = RX4 ∧ yX4_writeIt.cls ≠ "java/lang/invoke/MethodHandle" ∧ yX4_writeIt.cls ≠ "java/lang/invoke/VarHandle" ∧ (parseMethodDescriptor yX4_writeIt.desc).map (fun d => d.parameters.length) = some 3 := by decide +kernel
set_option maxRecDepth 100000 in
set_option maxHeartbeats 4000000 in
theorem c_X4_writeIt (l : Launch) (E : zE) (q : Nat → Nat) (z pa sl sv sp pd od : Int → Int) (pm ty om st wr : Int) (g : Int) (n : Int) (d : Int) (h0 : 0 ≤ g ∧ g ≤ 5) (h1 : -7 ≤ n ∧ n ≤ 1) (h2 : 0 ≤ zg z g 1 ∧ zg z g 1 ≤ 8) (h3 : 1 ≤ zg z g 0 ∧ zg z g 0 ≤ 8) (h4 : CZ z) (h5 : rg (z 1)) (h6 : 0 ≤ z 6 ∧ z 6 < 2000000000) (h7 : 0 ≤ zg z g 2 ∧ zg z g 2 ≤ 99) (h8 : 0 ≤ d ∧ d ≤ 9999) (h9 : (n = 1 ∧ (¬ z 1 = 1 ∨ zg z g 5 = 0)) ∨ ¬ mTold z g n = -6) : zF l E yX4_writeIt wsX4_writeIt 6 133 [.ref (q 0), .int (iI g), .int (iI n), .int (iI d)] (wM E q z pa sl sv sp pd od pm ty om st wr) (mWriteR z g n d) (wM E q (mWrite z g n d) pa sl sv sp pd od pm ty om st wr) := by
  have hz := h4
  have ht := mTold_rg (z := z) (g := g) (n := n) h2.1
  have hmh := mMake_hd (z := z) (g := g) (d := d) (j := 1) h0.1 (by omega)
  refine zC_of (cc := cX4_writeIt) (maxL := 5) (by decide) rfl (Nat.le_of_ble_eq_true rfl) ?_
  intro p e s m below meth c ls A hx hb hr hts hown hlocks hml hK hA hS hP hD hl
  have hown : s.vm.findClass RX4 = some m.cls := hown
  have hl : lv_has ls 5 [(0, .ref (q 0)), (1, .int (iI g)), (2, .int (iI n)), (3, .int (iI d))] := hl
  refine lv_iload_n hx hb dX4_writeIt_0 rfl (lv_at hl 2 rfl) ?_
  refine lv_iconst (v := iI 1) hx hb dX4_writeIt_1 (by decide) ?_
  refine z_icmp_ne (tgt := 51) hx hb dX4_writeIt_2 (by decide) ⟨by first | omega | exact (hz _ _ (by omega)).1 | exact (hz _ _ (by omega)).2, by first | omega | exact (hz _ _ (by omega)).1 | exact (hz _ _ (by omega)).2⟩ ⟨by first | omega | exact (hz _ _ (by omega)).1 | exact (hz _ _ (by omega)).2, by first | omega | exact (hz _ _ (by omega)).1 | exact (hz _ _ (by omega)).2⟩ (fun c_2 => ?_) (fun c_2 => ?_)
  · refine lv_aload_n hx hb dX4_writeIt_51 rfl (lv_at hl 0 rfl) ?_
    refine lv_iload_n hx hb dX4_writeIt_52 rfl (lv_at hl 1 rfl) ?_
    refine lv_iload_n hx hb dX4_writeIt_53 rfl (lv_at hl 2 rfl) ?_
    refine z_callV0 (ci := 4) (qk := 0) (As := [.int (iI g), .int (iI n)]) (rest := []) hx hb hml hown hts hK hA hl.1 hP hD hS (c_X4_told l E q z pa sl sv sp pd od pm ty om st wr g n  (by first | omega | exact hz _ _ (by omega) | exact hz | exact ⟨by omega, by omega⟩) (by first | omega | exact hz _ _ (by omega) | exact hz | exact ⟨by omega, by omega⟩) (by first | omega | exact hz _ _ (by omega) | exact hz | exact ⟨by omega, by omega⟩) (by first | omega | exact hz _ _ (by omega) | exact hz | exact ⟨by omega, by omega⟩) (by first | omega | exact hz _ _ (by omega) | exact hz | exact ⟨by omega, by omega⟩)) gX4_writeIt_X4_told rfl ndX4_told ⟨Nat.le_of_ble_eq_true rfl, Nat.le_of_ble_eq_true rfl⟩ rfl rfl rfl rfl rfl (Nat.le_of_ble_eq_true rfl) dX4_writeIt_54 ⟨Nat.le_of_ble_eq_true rfl, Nat.le_of_ble_eq_true rfl⟩ (fun x u H locs hpost hP hD hS => ?_)
    subst hpost
    have hP : va_P E.1 vwCl (wM E q z pa sl sv sp pd od pm ty om st wr) H := hP
    have hD : va_D A (wM E q z pa sl sv sp pd od pm ty om st wr) := hD
    refine lv_istore (lv' := [(4, .int (iI (mTold z g n))), (0, .ref (q 0)), (1, .int (iI g)), (2, .int (iI n)), (3, .int (iI d))]) hx hb dX4_writeIt_57 hl (by decide) rfl (fun ls hl => ?_)
    refine lv_aload_n hx hb dX4_writeIt_59 rfl (lv_at hl 1 rfl) ?_
    refine lv_iload_n hx hb dX4_writeIt_60 rfl (lv_at hl 2 rfl) ?_
    refine lv_iload hx hb dX4_writeIt_61 (lv_at hl 0 rfl) ?_
    refine lv_iconst (v := iI 2) hx hb dX4_writeIt_63 (by decide) ?_
    refine lv_iload_n hx hb dX4_writeIt_64 rfl (lv_at hl 4 rfl) ?_
    refine z_callVv0 (ci := 4) (qk := 0) (As := [.int (iI g), .int (iI (mTold z g n)), .int (iI 2), .int (iI d)]) (rest := []) hx hb hml hown hts hK hA hl.1 hP hD hS (c_X4_layGen l E q z pa sl sv sp pd od pm ty om st wr g (mTold z g n) 2 d  (by first | omega | exact hz _ _ (by omega) | exact hz | exact ⟨by omega, by omega⟩) (by first | omega | exact hz _ _ (by omega) | exact hz | exact ⟨by omega, by omega⟩)) gX4_writeIt_X4_layGen rfl ndX4_layGen ⟨Nat.le_of_ble_eq_true rfl, Nat.le_of_ble_eq_true rfl⟩ rfl rfl rfl rfl rfl (Nat.le_of_ble_eq_true rfl) dX4_writeIt_65 ⟨Nat.le_of_ble_eq_true rfl, Nat.le_of_ble_eq_true rfl⟩ (fun u H locs hpost hP hD hS => ?_)
    have hP : va_P E.1 vwCl (wM E q (zs z g (15 + 5 * (mTold z g n) + 2) d) pa sl sv sp pd od pm ty om st wr) H := hP
    have hD : va_D A (wM E q (zs z g (15 + 5 * (mTold z g n) + 2) d) pa sl sv sp pd od pm ty om st wr) := hD
    refine lv_aload_n hx hb dX4_writeIt_68 rfl (lv_at hl 1 rfl) ?_
    refine lv_iload_n hx hb dX4_writeIt_69 rfl (lv_at hl 2 rfl) ?_
    refine lv_iload hx hb dX4_writeIt_70 (lv_at hl 0 rfl) ?_
    refine lv_iconst (v := iI 1) hx hb dX4_writeIt_72 (by decide) ?_
    refine z_callV0 (ci := 4) (qk := 0) (As := [.int (iI g), .int (iI (mTold z g n)), .int (iI 1)]) (rest := []) hx hb hml hown hts hK hA hl.1 hP hD hS (c_X4_gen l E q (zs z g (15 + 5 * (mTold z g n) + 2) d) pa sl sv sp pd od pm ty om st wr g (mTold z g n) 1  (by first | omega | exact hz _ _ (by omega) | exact hz | exact ⟨by omega, by omega⟩) (by first | omega | exact hz _ _ (by omega) | exact hz | exact ⟨by omega, by omega⟩)) gX4_writeIt_X4_gen rfl ndX4_gen ⟨Nat.le_of_ble_eq_true rfl, Nat.le_of_ble_eq_true rfl⟩ rfl rfl rfl rfl rfl (Nat.le_of_ble_eq_true rfl) dX4_writeIt_73 ⟨Nat.le_of_ble_eq_true rfl, Nat.le_of_ble_eq_true rfl⟩ (fun x u H locs hpost hP hD hS => ?_)
    subst hpost
    have hP : va_P E.1 vwCl (wM E q (zs z g (15 + 5 * (mTold z g n) + 2) d) pa sl sv sp pd od pm ty om st wr) H := hP
    have hD : va_D A (wM E q (zs z g (15 + 5 * (mTold z g n) + 2) d) pa sl sv sp pd od pm ty om st wr) := hD
    have eqc_z : (mWrite z g n d) = zs z g (15 + 5 * (mTold z g n) + 2) d := by unfold mWrite; (first | rw [if_pos (by omega)] | rw [if_neg (by omega)]); all_goals (first | rfl | rw [if_pos c_33] | rw [if_neg c_33])
    have hP : va_P E.1 vwCl (wM E q (mWrite z g n d) pa sl sv sp pd od pm ty om st wr) H := by rw [eqc_z]; exact hP
    have hD : va_D A (wM E q (mWrite z g n d) pa sl sv sp pd od pm ty om st wr) := by rw [eqc_z]; exact hD
    exact z_iret hx hb hr hlocks hK hS () (by unfold mWriteR; (first | rw [if_pos (by omega)] | rw [if_neg (by omega)]); rw [eqc_z]) hP hD dX4_writeIt_76
  · refine lv_aload_n hx hb dX4_writeIt_5 rfl (lv_at hl 0 rfl) ?_
    refine z_callV0 (ci := 4) (qk := 0) (As := []) (rest := []) hx hb hml hown hts hK hA hl.1 hP hD hS (c_X4_runs l E q z pa sl sv sp pd od pm ty om st wr   (by first | omega | exact hz _ _ (by omega) | exact hz | exact ⟨by omega, by omega⟩)) gX4_writeIt_X4_runs rfl ndX4_runs ⟨Nat.le_of_ble_eq_true rfl, Nat.le_of_ble_eq_true rfl⟩ rfl rfl rfl rfl rfl (Nat.le_of_ble_eq_true rfl) dX4_writeIt_6 ⟨Nat.le_of_ble_eq_true rfl, Nat.le_of_ble_eq_true rfl⟩ (fun x u H locs hpost hP hD hS => ?_)
    subst hpost
    have hP : va_P E.1 vwCl (wM E q z pa sl sv sp pd od pm ty om st wr) H := hP
    have hD : va_D A (wM E q z pa sl sv sp pd od pm ty om st wr) := hD
    refine z_ifb_eq (tgt := 21) hx hb dX4_writeIt_9 (by decide) (fun c_9 => ?_) (fun c_9 => ?_)
    · refine lv_aload_n hx hb dX4_writeIt_21 rfl (lv_at hl 0 rfl) ?_
      refine lv_iload_n hx hb dX4_writeIt_22 rfl (lv_at hl 1 rfl) ?_
      refine lv_iload_n hx hb dX4_writeIt_23 rfl (lv_at hl 3 rfl) ?_
      refine z_callV0 (ci := 4) (qk := 0) (As := [.int (iI g), .int (iI d)]) (rest := []) hx hb hml hown hts hK hA hl.1 hP hD hS (c_X4_make l E q z pa sl sv sp pd od pm ty om st wr g d  (by first | omega | exact hz _ _ (by omega) | exact hz | exact ⟨by omega, by omega⟩) (by first | omega | exact hz _ _ (by omega) | exact hz | exact ⟨by omega, by omega⟩) (by first | omega | exact hz _ _ (by omega) | exact hz | exact ⟨by omega, by omega⟩) (by first | omega | exact hz _ _ (by omega) | exact hz | exact ⟨by omega, by omega⟩) (by first | omega | exact hz _ _ (by omega) | exact hz | exact ⟨by omega, by omega⟩) (by first | omega | exact hz _ _ (by omega) | exact hz | exact ⟨by omega, by omega⟩) (by first | omega | exact hz _ _ (by omega) | exact hz | exact ⟨by omega, by omega⟩) (by first | omega | exact hz _ _ (by omega) | exact hz | exact ⟨by omega, by omega⟩)) gX4_writeIt_X4_make rfl ndX4_make ⟨Nat.le_of_ble_eq_true rfl, Nat.le_of_ble_eq_true rfl⟩ rfl rfl rfl rfl rfl (Nat.le_of_ble_eq_true rfl) dX4_writeIt_24 ⟨Nat.le_of_ble_eq_true rfl, Nat.le_of_ble_eq_true rfl⟩ (fun x u H locs hpost hP hD hS => ?_)
      subst hpost
      have hP : va_P E.1 vwCl (wM E q (mMake z g d) pa sl sv sp pd od pm ty om st wr) H := hP
      have hD : va_D A (wM E q (mMake z g d) pa sl sv sp pd od pm ty om st wr) := hD
      refine lv_istore (lv' := [(4, .int (iI ((mMake z g d) 6))), (0, .ref (q 0)), (1, .int (iI g)), (2, .int (iI n)), (3, .int (iI d))]) hx hb dX4_writeIt_27 hl (by decide) rfl (fun ls hl => ?_)
      refine lv_aload_n hx hb dX4_writeIt_29 rfl (lv_at hl 1 rfl) ?_
      refine z_callV0 (ci := 4) (qk := 0) (As := []) (rest := []) hx hb hml hown hts hK hA hl.1 hP hD hS (c_X4_runs l E q (mMake z g d) pa sl sv sp pd od pm ty om st wr   (by first | omega | exact hz _ _ (by omega) | exact hz | exact ⟨by omega, by omega⟩)) gX4_writeIt_X4_runs rfl ndX4_runs ⟨Nat.le_of_ble_eq_true rfl, Nat.le_of_ble_eq_true rfl⟩ rfl rfl rfl rfl rfl (Nat.le_of_ble_eq_true rfl) dX4_writeIt_30 ⟨Nat.le_of_ble_eq_true rfl, Nat.le_of_ble_eq_true rfl⟩ (fun x u H locs hpost hP hD hS => ?_)
      subst hpost
      have hP : va_P E.1 vwCl (wM E q (mMake z g d) pa sl sv sp pd od pm ty om st wr) H := hP
      have hD : va_D A (wM E q (mMake z g d) pa sl sv sp pd od pm ty om st wr) := hD
      refine z_ifb_eq (tgt := 44) hx hb dX4_writeIt_33 (by decide) (fun c_33 => ?_) (fun c_33 => ?_)
      · refine lv_aload_n hx hb dX4_writeIt_44 rfl (lv_at hl 1 rfl) ?_
        refine lv_iload_n hx hb dX4_writeIt_45 rfl (lv_at hl 2 rfl) ?_
        refine lv_iconst (v := iI 2) hx hb dX4_writeIt_46 (by decide) ?_
        refine z_callV0 (ci := 4) (qk := 0) (As := [.int (iI g), .int (iI 2)]) (rest := []) hx hb hml hown hts hK hA hl.1 hP hD hS (c_X4_of l E q (mMake z g d) pa sl sv sp pd od pm ty om st wr g 2  (by first | omega | exact hz _ _ (by omega) | exact hz | exact ⟨by omega, by omega⟩) (by first | omega | exact hz _ _ (by omega) | exact hz | exact ⟨by omega, by omega⟩)) gX4_writeIt_X4_of rfl ndX4_of ⟨Nat.le_of_ble_eq_true rfl, Nat.le_of_ble_eq_true rfl⟩ rfl rfl rfl rfl rfl (Nat.le_of_ble_eq_true rfl) dX4_writeIt_47 ⟨Nat.le_of_ble_eq_true rfl, Nat.le_of_ble_eq_true rfl⟩ (fun x u H locs hpost hP hD hS => ?_)
        subst hpost
        have hP : va_P E.1 vwCl (wM E q (mMake z g d) pa sl sv sp pd od pm ty om st wr) H := hP
        have hD : va_D A (wM E q (mMake z g d) pa sl sv sp pd od pm ty om st wr) := hD
        have eqc_z : (mWrite z g n d) = mMake z g d := by unfold mWrite; (first | rw [if_pos (by omega)] | rw [if_neg (by omega)]); all_goals (first | rfl | rw [if_pos c_33] | rw [if_neg c_33])
        have hP : va_P E.1 vwCl (wM E q (mWrite z g n d) pa sl sv sp pd od pm ty om st wr) H := by rw [eqc_z]; exact hP
        have hD : va_D A (wM E q (mWrite z g n d) pa sl sv sp pd od pm ty om st wr) := by rw [eqc_z]; exact hD
        exact z_iret hx hb hr hlocks hK hS () (by unfold mWriteR; (first | rw [if_pos (by omega)] | rw [if_neg (by omega)]); rw [eqc_z]) hP hD dX4_writeIt_50
      · refine lv_aload_n hx hb dX4_writeIt_36 rfl (lv_at hl 1 rfl) ?_
        refine lv_iload_n hx hb dX4_writeIt_37 rfl (lv_at hl 2 rfl) ?_
        refine lv_iconst (v := iI 5) hx hb dX4_writeIt_38 (by decide) ?_
        refine lv_iload hx hb dX4_writeIt_39 (lv_at hl 0 rfl) ?_
        refine z_callVv0 (ci := 4) (qk := 0) (As := [.int (iI g), .int (iI 5), .int (iI ((mMake z g d) 6))]) (rest := []) hx hb hml hown hts hK hA hl.1 hP hD hS (c_X4_lay l E q (mMake z g d) pa sl sv sp pd od pm ty om st wr g 5 ((mMake z g d) 6)  (by first | omega | exact hz _ _ (by omega) | exact hz | exact ⟨by omega, by omega⟩) (by first | omega | exact hz _ _ (by omega) | exact hz | exact ⟨by omega, by omega⟩)) gX4_writeIt_X4_lay rfl ndX4_lay ⟨Nat.le_of_ble_eq_true rfl, Nat.le_of_ble_eq_true rfl⟩ rfl rfl rfl rfl rfl (Nat.le_of_ble_eq_true rfl) dX4_writeIt_41 ⟨Nat.le_of_ble_eq_true rfl, Nat.le_of_ble_eq_true rfl⟩ (fun u H locs hpost hP hD hS => ?_)
        have hP : va_P E.1 vwCl (wM E q (zs (mMake z g d) g 5 ((mMake z g d) 6)) pa sl sv sp pd od pm ty om st wr) H := hP
        have hD : va_D A (wM E q (zs (mMake z g d) g 5 ((mMake z g d) 6)) pa sl sv sp pd od pm ty om st wr) := hD
        refine lv_aload_n hx hb dX4_writeIt_44 rfl (lv_at hl 1 rfl) ?_
        refine lv_iload_n hx hb dX4_writeIt_45 rfl (lv_at hl 2 rfl) ?_
        refine lv_iconst (v := iI 2) hx hb dX4_writeIt_46 (by decide) ?_
        refine z_callV0 (ci := 4) (qk := 0) (As := [.int (iI g), .int (iI 2)]) (rest := []) hx hb hml hown hts hK hA hl.1 hP hD hS (c_X4_of l E q (zs (mMake z g d) g 5 ((mMake z g d) 6)) pa sl sv sp pd od pm ty om st wr g 2  (by first | omega | exact hz _ _ (by omega) | exact hz | exact ⟨by omega, by omega⟩) (by first | omega | exact hz _ _ (by omega) | exact hz | exact ⟨by omega, by omega⟩)) gX4_writeIt_X4_of rfl ndX4_of ⟨Nat.le_of_ble_eq_true rfl, Nat.le_of_ble_eq_true rfl⟩ rfl rfl rfl rfl rfl (Nat.le_of_ble_eq_true rfl) dX4_writeIt_47 ⟨Nat.le_of_ble_eq_true rfl, Nat.le_of_ble_eq_true rfl⟩ (fun x u H locs hpost hP hD hS => ?_)
        subst hpost
        have hP : va_P E.1 vwCl (wM E q (zs (mMake z g d) g 5 ((mMake z g d) 6)) pa sl sv sp pd od pm ty om st wr) H := hP
        have hD : va_D A (wM E q (zs (mMake z g d) g 5 ((mMake z g d) 6)) pa sl sv sp pd od pm ty om st wr) := hD
        have eqc_z : (mWrite z g n d) = zs (mMake z g d) g 5 ((mMake z g d) 6) := by unfold mWrite; (first | rw [if_pos (by omega)] | rw [if_neg (by omega)]); all_goals (first | rfl | rw [if_pos c_33] | rw [if_neg c_33])
        have hP : va_P E.1 vwCl (wM E q (mWrite z g n d) pa sl sv sp pd od pm ty om st wr) H := by rw [eqc_z]; exact hP
        have hD : va_D A (wM E q (mWrite z g n d) pa sl sv sp pd od pm ty om st wr) := by rw [eqc_z]; exact hD
        exact z_iret hx hb hr hlocks hK hS () (by unfold mWriteR; (first | rw [if_pos (by omega)] | rw [if_neg (by omega)]); rw [eqc_z]) hP hD dX4_writeIt_50
    · refine lv_aload_n hx hb dX4_writeIt_12 rfl (lv_at hl 0 rfl) ?_
      refine lv_iload_n hx hb dX4_writeIt_13 rfl (lv_at hl 1 rfl) ?_
      refine lv_iconst (v := iI 5) hx hb dX4_writeIt_14 (by decide) ?_
      refine z_callV0 (ci := 4) (qk := 0) (As := [.int (iI g), .int (iI 5)]) (rest := []) hx hb hml hown hts hK hA hl.1 hP hD hS (c_X4_of l E q z pa sl sv sp pd od pm ty om st wr g 5  (by first | omega | exact hz _ _ (by omega) | exact hz | exact ⟨by omega, by omega⟩) (by first | omega | exact hz _ _ (by omega) | exact hz | exact ⟨by omega, by omega⟩)) gX4_writeIt_X4_of rfl ndX4_of ⟨Nat.le_of_ble_eq_true rfl, Nat.le_of_ble_eq_true rfl⟩ rfl rfl rfl rfl rfl (Nat.le_of_ble_eq_true rfl) dX4_writeIt_15 ⟨Nat.le_of_ble_eq_true rfl, Nat.le_of_ble_eq_true rfl⟩ (fun x u H locs hpost hP hD hS => ?_)
      subst hpost
      have hP : va_P E.1 vwCl (wM E q z pa sl sv sp pd od pm ty om st wr) H := hP
      have hD : va_D A (wM E q z pa sl sv sp pd od pm ty om st wr) := hD
      refine z_if_ne (tgt := 51) hx hb dX4_writeIt_18 (by decide) ⟨by first | omega | exact (hz _ _ (by omega)).1 | exact (hz _ _ (by omega)).2, by first | omega | exact (hz _ _ (by omega)).1 | exact (hz _ _ (by omega)).2⟩ (fun c_18 => ?_) (fun c_18 => ?_)
      · refine lv_aload_n hx hb dX4_writeIt_51 rfl (lv_at hl 0 rfl) ?_
        refine lv_iload_n hx hb dX4_writeIt_52 rfl (lv_at hl 1 rfl) ?_
        refine lv_iload_n hx hb dX4_writeIt_53 rfl (lv_at hl 2 rfl) ?_
        refine z_callV0 (ci := 4) (qk := 0) (As := [.int (iI g), .int (iI n)]) (rest := []) hx hb hml hown hts hK hA hl.1 hP hD hS (c_X4_told l E q z pa sl sv sp pd od pm ty om st wr g n  (by first | omega | exact hz _ _ (by omega) | exact hz | exact ⟨by omega, by omega⟩) (by first | omega | exact hz _ _ (by omega) | exact hz | exact ⟨by omega, by omega⟩) (by first | omega | exact hz _ _ (by omega) | exact hz | exact ⟨by omega, by omega⟩) (by first | omega | exact hz _ _ (by omega) | exact hz | exact ⟨by omega, by omega⟩) (by first | omega | exact hz _ _ (by omega) | exact hz | exact ⟨by omega, by omega⟩)) gX4_writeIt_X4_told rfl ndX4_told ⟨Nat.le_of_ble_eq_true rfl, Nat.le_of_ble_eq_true rfl⟩ rfl rfl rfl rfl rfl (Nat.le_of_ble_eq_true rfl) dX4_writeIt_54 ⟨Nat.le_of_ble_eq_true rfl, Nat.le_of_ble_eq_true rfl⟩ (fun x u H locs hpost hP hD hS => ?_)
        subst hpost
        have hP : va_P E.1 vwCl (wM E q z pa sl sv sp pd od pm ty om st wr) H := hP
        have hD : va_D A (wM E q z pa sl sv sp pd od pm ty om st wr) := hD
        refine lv_istore (lv' := [(4, .int (iI (mTold z g n))), (0, .ref (q 0)), (1, .int (iI g)), (2, .int (iI n)), (3, .int (iI d))]) hx hb dX4_writeIt_57 hl (by decide) rfl (fun ls hl => ?_)
        refine lv_aload_n hx hb dX4_writeIt_59 rfl (lv_at hl 1 rfl) ?_
        refine lv_iload_n hx hb dX4_writeIt_60 rfl (lv_at hl 2 rfl) ?_
        refine lv_iload hx hb dX4_writeIt_61 (lv_at hl 0 rfl) ?_
        refine lv_iconst (v := iI 2) hx hb dX4_writeIt_63 (by decide) ?_
        refine lv_iload_n hx hb dX4_writeIt_64 rfl (lv_at hl 4 rfl) ?_
        refine z_callVv0 (ci := 4) (qk := 0) (As := [.int (iI g), .int (iI (mTold z g n)), .int (iI 2), .int (iI d)]) (rest := []) hx hb hml hown hts hK hA hl.1 hP hD hS (c_X4_layGen l E q z pa sl sv sp pd od pm ty om st wr g (mTold z g n) 2 d  (by first | omega | exact hz _ _ (by omega) | exact hz | exact ⟨by omega, by omega⟩) (by first | omega | exact hz _ _ (by omega) | exact hz | exact ⟨by omega, by omega⟩)) gX4_writeIt_X4_layGen rfl ndX4_layGen ⟨Nat.le_of_ble_eq_true rfl, Nat.le_of_ble_eq_true rfl⟩ rfl rfl rfl rfl rfl (Nat.le_of_ble_eq_true rfl) dX4_writeIt_65 ⟨Nat.le_of_ble_eq_true rfl, Nat.le_of_ble_eq_true rfl⟩ (fun u H locs hpost hP hD hS => ?_)
        have hP : va_P E.1 vwCl (wM E q (zs z g (15 + 5 * (mTold z g n) + 2) d) pa sl sv sp pd od pm ty om st wr) H := hP
        have hD : va_D A (wM E q (zs z g (15 + 5 * (mTold z g n) + 2) d) pa sl sv sp pd od pm ty om st wr) := hD
        refine lv_aload_n hx hb dX4_writeIt_68 rfl (lv_at hl 1 rfl) ?_
        refine lv_iload_n hx hb dX4_writeIt_69 rfl (lv_at hl 2 rfl) ?_
        refine lv_iload hx hb dX4_writeIt_70 (lv_at hl 0 rfl) ?_
        refine lv_iconst (v := iI 1) hx hb dX4_writeIt_72 (by decide) ?_
        refine z_callV0 (ci := 4) (qk := 0) (As := [.int (iI g), .int (iI (mTold z g n)), .int (iI 1)]) (rest := []) hx hb hml hown hts hK hA hl.1 hP hD hS (c_X4_gen l E q (zs z g (15 + 5 * (mTold z g n) + 2) d) pa sl sv sp pd od pm ty om st wr g (mTold z g n) 1  (by first | omega | exact hz _ _ (by omega) | exact hz | exact ⟨by omega, by omega⟩) (by first | omega | exact hz _ _ (by omega) | exact hz | exact ⟨by omega, by omega⟩)) gX4_writeIt_X4_gen rfl ndX4_gen ⟨Nat.le_of_ble_eq_true rfl, Nat.le_of_ble_eq_true rfl⟩ rfl rfl rfl rfl rfl (Nat.le_of_ble_eq_true rfl) dX4_writeIt_73 ⟨Nat.le_of_ble_eq_true rfl, Nat.le_of_ble_eq_true rfl⟩ (fun x u H locs hpost hP hD hS => ?_)
        subst hpost
        have hP : va_P E.1 vwCl (wM E q (zs z g (15 + 5 * (mTold z g n) + 2) d) pa sl sv sp pd od pm ty om st wr) H := hP
        have hD : va_D A (wM E q (zs z g (15 + 5 * (mTold z g n) + 2) d) pa sl sv sp pd od pm ty om st wr) := hD
        have eqc_z : (mWrite z g n d) = zs z g (15 + 5 * (mTold z g n) + 2) d := by unfold mWrite; (first | rw [if_pos (by omega)] | rw [if_neg (by omega)]); all_goals (first | rfl | rw [if_pos c_33] | rw [if_neg c_33])
        have hP : va_P E.1 vwCl (wM E q (mWrite z g n d) pa sl sv sp pd od pm ty om st wr) H := by rw [eqc_z]; exact hP
        have hD : va_D A (wM E q (mWrite z g n d) pa sl sv sp pd od pm ty om st wr) := by rw [eqc_z]; exact hD
        exact z_iret hx hb hr hlocks hK hS () (by unfold mWriteR; (first | rw [if_pos (by omega)] | rw [if_neg (by omega)]); rw [eqc_z]) hP hD dX4_writeIt_76
      · refine lv_aload_n hx hb dX4_writeIt_21 rfl (lv_at hl 0 rfl) ?_
        refine lv_iload_n hx hb dX4_writeIt_22 rfl (lv_at hl 1 rfl) ?_
        refine lv_iload_n hx hb dX4_writeIt_23 rfl (lv_at hl 3 rfl) ?_
        refine z_callV0 (ci := 4) (qk := 0) (As := [.int (iI g), .int (iI d)]) (rest := []) hx hb hml hown hts hK hA hl.1 hP hD hS (c_X4_make l E q z pa sl sv sp pd od pm ty om st wr g d  (by first | omega | exact hz _ _ (by omega) | exact hz | exact ⟨by omega, by omega⟩) (by first | omega | exact hz _ _ (by omega) | exact hz | exact ⟨by omega, by omega⟩) (by first | omega | exact hz _ _ (by omega) | exact hz | exact ⟨by omega, by omega⟩) (by first | omega | exact hz _ _ (by omega) | exact hz | exact ⟨by omega, by omega⟩) (by first | omega | exact hz _ _ (by omega) | exact hz | exact ⟨by omega, by omega⟩) (by first | omega | exact hz _ _ (by omega) | exact hz | exact ⟨by omega, by omega⟩) (by first | omega | exact hz _ _ (by omega) | exact hz | exact ⟨by omega, by omega⟩) (by first | omega | exact hz _ _ (by omega) | exact hz | exact ⟨by omega, by omega⟩)) gX4_writeIt_X4_make rfl ndX4_make ⟨Nat.le_of_ble_eq_true rfl, Nat.le_of_ble_eq_true rfl⟩ rfl rfl rfl rfl rfl (Nat.le_of_ble_eq_true rfl) dX4_writeIt_24 ⟨Nat.le_of_ble_eq_true rfl, Nat.le_of_ble_eq_true rfl⟩ (fun x u H locs hpost hP hD hS => ?_)
        subst hpost
        have hP : va_P E.1 vwCl (wM E q (mMake z g d) pa sl sv sp pd od pm ty om st wr) H := hP
        have hD : va_D A (wM E q (mMake z g d) pa sl sv sp pd od pm ty om st wr) := hD
        refine lv_istore (lv' := [(4, .int (iI ((mMake z g d) 6))), (0, .ref (q 0)), (1, .int (iI g)), (2, .int (iI n)), (3, .int (iI d))]) hx hb dX4_writeIt_27 hl (by decide) rfl (fun ls hl => ?_)
        refine lv_aload_n hx hb dX4_writeIt_29 rfl (lv_at hl 1 rfl) ?_
        refine z_callV0 (ci := 4) (qk := 0) (As := []) (rest := []) hx hb hml hown hts hK hA hl.1 hP hD hS (c_X4_runs l E q (mMake z g d) pa sl sv sp pd od pm ty om st wr   (by first | omega | exact hz _ _ (by omega) | exact hz | exact ⟨by omega, by omega⟩)) gX4_writeIt_X4_runs rfl ndX4_runs ⟨Nat.le_of_ble_eq_true rfl, Nat.le_of_ble_eq_true rfl⟩ rfl rfl rfl rfl rfl (Nat.le_of_ble_eq_true rfl) dX4_writeIt_30 ⟨Nat.le_of_ble_eq_true rfl, Nat.le_of_ble_eq_true rfl⟩ (fun x u H locs hpost hP hD hS => ?_)
        subst hpost
        have hP : va_P E.1 vwCl (wM E q (mMake z g d) pa sl sv sp pd od pm ty om st wr) H := hP
        have hD : va_D A (wM E q (mMake z g d) pa sl sv sp pd od pm ty om st wr) := hD
        refine z_ifb_eq (tgt := 44) hx hb dX4_writeIt_33 (by decide) (fun c_33 => ?_) (fun c_33 => ?_)
        · refine lv_aload_n hx hb dX4_writeIt_44 rfl (lv_at hl 1 rfl) ?_
          refine lv_iload_n hx hb dX4_writeIt_45 rfl (lv_at hl 2 rfl) ?_
          refine lv_iconst (v := iI 2) hx hb dX4_writeIt_46 (by decide) ?_
          refine z_callV0 (ci := 4) (qk := 0) (As := [.int (iI g), .int (iI 2)]) (rest := []) hx hb hml hown hts hK hA hl.1 hP hD hS (c_X4_of l E q (mMake z g d) pa sl sv sp pd od pm ty om st wr g 2  (by first | omega | exact hz _ _ (by omega) | exact hz | exact ⟨by omega, by omega⟩) (by first | omega | exact hz _ _ (by omega) | exact hz | exact ⟨by omega, by omega⟩)) gX4_writeIt_X4_of rfl ndX4_of ⟨Nat.le_of_ble_eq_true rfl, Nat.le_of_ble_eq_true rfl⟩ rfl rfl rfl rfl rfl (Nat.le_of_ble_eq_true rfl) dX4_writeIt_47 ⟨Nat.le_of_ble_eq_true rfl, Nat.le_of_ble_eq_true rfl⟩ (fun x u H locs hpost hP hD hS => ?_)
          subst hpost
          have hP : va_P E.1 vwCl (wM E q (mMake z g d) pa sl sv sp pd od pm ty om st wr) H := hP
          have hD : va_D A (wM E q (mMake z g d) pa sl sv sp pd od pm ty om st wr) := hD
          have eqc_z : (mWrite z g n d) = mMake z g d := by unfold mWrite; (first | rw [if_pos (by omega)] | rw [if_neg (by omega)]); all_goals (first | rfl | rw [if_pos c_33] | rw [if_neg c_33])
          have hP : va_P E.1 vwCl (wM E q (mWrite z g n d) pa sl sv sp pd od pm ty om st wr) H := by rw [eqc_z]; exact hP
          have hD : va_D A (wM E q (mWrite z g n d) pa sl sv sp pd od pm ty om st wr) := by rw [eqc_z]; exact hD
          exact z_iret hx hb hr hlocks hK hS () (by unfold mWriteR; (first | rw [if_pos (by omega)] | rw [if_neg (by omega)]); rw [eqc_z]) hP hD dX4_writeIt_50
        · refine lv_aload_n hx hb dX4_writeIt_36 rfl (lv_at hl 1 rfl) ?_
          refine lv_iload_n hx hb dX4_writeIt_37 rfl (lv_at hl 2 rfl) ?_
          refine lv_iconst (v := iI 5) hx hb dX4_writeIt_38 (by decide) ?_
          refine lv_iload hx hb dX4_writeIt_39 (lv_at hl 0 rfl) ?_
          refine z_callVv0 (ci := 4) (qk := 0) (As := [.int (iI g), .int (iI 5), .int (iI ((mMake z g d) 6))]) (rest := []) hx hb hml hown hts hK hA hl.1 hP hD hS (c_X4_lay l E q (mMake z g d) pa sl sv sp pd od pm ty om st wr g 5 ((mMake z g d) 6)  (by first | omega | exact hz _ _ (by omega) | exact hz | exact ⟨by omega, by omega⟩) (by first | omega | exact hz _ _ (by omega) | exact hz | exact ⟨by omega, by omega⟩)) gX4_writeIt_X4_lay rfl ndX4_lay ⟨Nat.le_of_ble_eq_true rfl, Nat.le_of_ble_eq_true rfl⟩ rfl rfl rfl rfl rfl (Nat.le_of_ble_eq_true rfl) dX4_writeIt_41 ⟨Nat.le_of_ble_eq_true rfl, Nat.le_of_ble_eq_true rfl⟩ (fun u H locs hpost hP hD hS => ?_)
          have hP : va_P E.1 vwCl (wM E q (zs (mMake z g d) g 5 ((mMake z g d) 6)) pa sl sv sp pd od pm ty om st wr) H := hP
          have hD : va_D A (wM E q (zs (mMake z g d) g 5 ((mMake z g d) 6)) pa sl sv sp pd od pm ty om st wr) := hD
          refine lv_aload_n hx hb dX4_writeIt_44 rfl (lv_at hl 1 rfl) ?_
          refine lv_iload_n hx hb dX4_writeIt_45 rfl (lv_at hl 2 rfl) ?_
          refine lv_iconst (v := iI 2) hx hb dX4_writeIt_46 (by decide) ?_
          refine z_callV0 (ci := 4) (qk := 0) (As := [.int (iI g), .int (iI 2)]) (rest := []) hx hb hml hown hts hK hA hl.1 hP hD hS (c_X4_of l E q (zs (mMake z g d) g 5 ((mMake z g d) 6)) pa sl sv sp pd od pm ty om st wr g 2  (by first | omega | exact hz _ _ (by omega) | exact hz | exact ⟨by omega, by omega⟩) (by first | omega | exact hz _ _ (by omega) | exact hz | exact ⟨by omega, by omega⟩)) gX4_writeIt_X4_of rfl ndX4_of ⟨Nat.le_of_ble_eq_true rfl, Nat.le_of_ble_eq_true rfl⟩ rfl rfl rfl rfl rfl (Nat.le_of_ble_eq_true rfl) dX4_writeIt_47 ⟨Nat.le_of_ble_eq_true rfl, Nat.le_of_ble_eq_true rfl⟩ (fun x u H locs hpost hP hD hS => ?_)
          subst hpost
          have hP : va_P E.1 vwCl (wM E q (zs (mMake z g d) g 5 ((mMake z g d) 6)) pa sl sv sp pd od pm ty om st wr) H := hP
          have hD : va_D A (wM E q (zs (mMake z g d) g 5 ((mMake z g d) 6)) pa sl sv sp pd od pm ty om st wr) := hD
          have eqc_z : (mWrite z g n d) = zs (mMake z g d) g 5 ((mMake z g d) 6) := by unfold mWrite; (first | rw [if_pos (by omega)] | rw [if_neg (by omega)]); all_goals (first | rfl | rw [if_pos c_33] | rw [if_neg c_33])
          have hP : va_P E.1 vwCl (wM E q (mWrite z g n d) pa sl sv sp pd od pm ty om st wr) H := by rw [eqc_z]; exact hP
          have hD : va_D A (wM E q (mWrite z g n d) pa sl sv sp pd od pm ty om st wr) := by rw [eqc_z]; exact hD
          exact z_iret hx hb hr hlocks hK hS () (by unfold mWriteR; (first | rw [if_pos (by omega)] | rw [if_neg (by omega)]); rw [eqc_z]) hP hD dX4_writeIt_50

theorem ndX4_readIt : yX4_readIt.cls = RX4 ∧ yX4_readIt.cls ≠ "java/lang/invoke/MethodHandle" ∧ yX4_readIt.cls ≠ "java/lang/invoke/VarHandle" ∧ (parseMethodDescriptor yX4_readIt.desc).map (fun d => d.parameters.length) = some 2 := by decide +kernel
set_option maxRecDepth 100000 in
set_option maxHeartbeats 4000000 in
theorem c_X4_readIt (l : Launch) (E : zE) (q : Nat → Nat) (z pa sl sv sp pd od : Int → Int) (pm ty om st wr : Int) (g : Int) (n : Int) (h0 : 0 ≤ g ∧ g ≤ 5) (h1 : -7 ≤ n ∧ n ≤ 1) (h2 : 0 ≤ zg z g 1 ∧ zg z g 1 ≤ 8) (h3 : CZ z) (h4 : rg (z 1)) : zF l E yX4_readIt wsX4_readIt 4 92 [.ref (q 0), .int (iI g), .int (iI n)] (wM E q z pa sl sv sp pd od pm ty om st wr) (mReadR z g n) (wM E q (mRead z g n) pa sl sv sp pd od pm ty om st wr) := by
  have hz : CZ (mR1 z) := CZ_hd h3 (by omega)
  have hm1 : zg (mR1 z) g 1 = zg z g 1 := zg_hd h0.1 (by omega) (by omega)
  have hr1 : rg ((mR1 z) 1) := h4
  have ht := mTold_rg (z := mR1 z) (g := g) (n := n) (by omega)
  refine zC_of (cc := cX4_readIt) (maxL := 4) (by decide) rfl (Nat.le_of_ble_eq_true rfl) ?_
  intro p e s m below meth c ls A hx hb hr hts hown hlocks hml hK hA hS hP hD hl
  have hown : s.vm.findClass RX4 = some m.cls := hown
  have hl : lv_has ls 4 [(0, .ref (q 0)), (1, .int (iI g)), (2, .int (iI n))] := hl
  have hinX4 : ∀ v ∈ u_ws RX4 TX4 12, v ∈ wsX4_readIt := by decide +kernel
  have hf_7 := hts (.fieldLink RX4 7 "GenerationNamesModel" "z" "[I") (by decide +kernel)
  refine lv_aload_n hx hb dX4_readIt_0 rfl (lv_at hl 0 rfl) ?_
  refine va_get (D := E.1) (cl := vwCl) (ci := 4) (v := .ref (q 1)) (C := RX4) (T := TX4) (N := 12) hx hb hts hinX4 hown hK hP 0 rfl rfl 0 (by decide) hf_7 (fun _ h => h) rfl dX4_readIt_1 ?_
  refine lv_iconst (v := iI 4) hx hb dX4_readIt_4 (by decide) ?_
  refine lv_dup2_11 hx hb dX4_readIt_5 rfl rfl ?_
  refine z_iald (D := E.1) (cl := vwCl) (tys := zT E) (f := z) hx hb hK hP 1 0 rfl rfl (by omega) (by omega) (by omega) dX4_readIt_6 ?_
  refine lv_iconst (v := iI 1) hx hb dX4_readIt_7 (by decide) ?_
  refine z_iadd hx hb dX4_readIt_8 ?_
  refine z_iast (D := E.1) (cl := vwCl) (tys := zT E) (f := z) hx hb hK hP hD hS 1 0 rfl rfl (by omega) (by omega) (by omega) dX4_readIt_9 (fun H locs hP hD hS => ?_)
  have hP : va_P E.1 vwCl (wM E q (iU z 4 ((z 4) + 1)) pa sl sv sp pd od pm ty om st wr) H := hP
  have hD : va_D A (wM E q (iU z 4 ((z 4) + 1)) pa sl sv sp pd od pm ty om st wr) := hD
  have hP : va_P E.1 vwCl (wM E q (mR1 z) pa sl sv sp pd od pm ty om st wr) H := hP
  have hD : va_D A (wM E q (mR1 z) pa sl sv sp pd od pm ty om st wr) := hD
  refine lv_aload_n hx hb dX4_readIt_10 rfl (lv_at hl 0 rfl) ?_
  refine lv_iload_n hx hb dX4_readIt_11 rfl (lv_at hl 1 rfl) ?_
  refine lv_iload_n hx hb dX4_readIt_12 rfl (lv_at hl 2 rfl) ?_
  refine z_callV0 (ci := 4) (qk := 0) (As := [.int (iI g), .int (iI n)]) (rest := []) hx hb hml hown hts hK hA hl.1 hP hD hS (c_X4_told l E q (mR1 z) pa sl sv sp pd od pm ty om st wr g n  (by first | omega | exact hz _ _ (by omega) | exact hz | exact ⟨by omega, by omega⟩ | exact hr1) (by first | omega | exact hz _ _ (by omega) | exact hz | exact ⟨by omega, by omega⟩ | exact hr1) (by first | omega | exact hz _ _ (by omega) | exact hz | exact ⟨by omega, by omega⟩ | exact hr1) (by first | omega | exact hz _ _ (by omega) | exact hz | exact ⟨by omega, by omega⟩ | exact hr1) (by first | omega | exact hz _ _ (by omega) | exact hz | exact ⟨by omega, by omega⟩ | exact hr1)) gX4_readIt_X4_told rfl ndX4_told ⟨Nat.le_of_ble_eq_true rfl, Nat.le_of_ble_eq_true rfl⟩ rfl rfl rfl rfl rfl (Nat.le_of_ble_eq_true rfl) dX4_readIt_13 ⟨Nat.le_of_ble_eq_true rfl, Nat.le_of_ble_eq_true rfl⟩ (fun x u H locs hpost hP hD hS => ?_)
  subst hpost
  have hP : va_P E.1 vwCl (wM E q (mR1 z) pa sl sv sp pd od pm ty om st wr) H := hP
  have hD : va_D A (wM E q (mR1 z) pa sl sv sp pd od pm ty om st wr) := hD
  refine lv_istore_n (lv' := [(3, .int (iI (mTold (mR1 z) g n))), (0, .ref (q 0)), (1, .int (iI g)), (2, .int (iI n))]) hx hb dX4_readIt_16 rfl hl (by decide) rfl (fun ls hl => ?_)
  refine lv_iload_n hx hb dX4_readIt_17 rfl (lv_at hl 0 rfl) ?_
  refine lv_bipush (v := iI (-6)) hx hb dX4_readIt_18 (by decide) ?_
  refine z_icmp_ne (tgt := 36) hx hb dX4_readIt_20 (by decide) ⟨by first | omega | exact (hz _ _ (by omega)).1 | exact (hz _ _ (by omega)).2, by first | omega | exact (hz _ _ (by omega)).1 | exact (hz _ _ (by omega)).2⟩ ⟨by first | omega | exact (hz _ _ (by omega)).1 | exact (hz _ _ (by omega)).2, by first | omega | exact (hz _ _ (by omega)).1 | exact (hz _ _ (by omega)).2⟩ (fun c_20 => ?_) (fun c_20 => ?_)
  · refine lv_aload_n hx hb dX4_readIt_36 rfl (lv_at hl 1 rfl) ?_
    refine lv_iload_n hx hb dX4_readIt_37 rfl (lv_at hl 2 rfl) ?_
    refine lv_iload_n hx hb dX4_readIt_38 rfl (lv_at hl 0 rfl) ?_
    refine lv_iconst (v := iI 3) hx hb dX4_readIt_39 (by decide) ?_
    refine lv_aload_n hx hb dX4_readIt_40 rfl (lv_at hl 1 rfl) ?_
    refine lv_iload_n hx hb dX4_readIt_41 rfl (lv_at hl 2 rfl) ?_
    refine lv_iload_n hx hb dX4_readIt_42 rfl (lv_at hl 0 rfl) ?_
    refine lv_iconst (v := iI 3) hx hb dX4_readIt_43 (by decide) ?_
    refine z_callV0 (ci := 4) (qk := 0) (As := [.int (iI g), .int (iI (mTold (mR1 z) g n)), .int (iI 3)]) (rest := [.int (iI 3), .int (iI (mTold (mR1 z) g n)), .int (iI g), .ref (q 0)]) hx hb hml hown hts hK hA hl.1 hP hD hS (c_X4_gen l E q (mR1 z) pa sl sv sp pd od pm ty om st wr g (mTold (mR1 z) g n) 3  (by first | omega | exact hz _ _ (by omega) | exact hz | exact ⟨by omega, by omega⟩ | exact hr1) (by first | omega | exact hz _ _ (by omega) | exact hz | exact ⟨by omega, by omega⟩ | exact hr1)) gX4_readIt_X4_gen rfl ndX4_gen ⟨Nat.le_of_ble_eq_true rfl, Nat.le_of_ble_eq_true rfl⟩ rfl rfl rfl rfl rfl (Nat.le_of_ble_eq_true rfl) dX4_readIt_44 ⟨Nat.le_of_ble_eq_true rfl, Nat.le_of_ble_eq_true rfl⟩ (fun x u H locs hpost hP hD hS => ?_)
    subst hpost
    have hP : va_P E.1 vwCl (wM E q (mR1 z) pa sl sv sp pd od pm ty om st wr) H := hP
    have hD : va_D A (wM E q (mR1 z) pa sl sv sp pd od pm ty om st wr) := hD
    refine lv_iconst (v := iI 1) hx hb dX4_readIt_47 (by decide) ?_
    refine z_iadd hx hb dX4_readIt_48 ?_
    refine z_callVv0 (ci := 4) (qk := 0) (As := [.int (iI g), .int (iI (mTold (mR1 z) g n)), .int (iI 3), .int (iI ((zg (mR1 z) g (15 + 5 * (mTold (mR1 z) g n) + 3)) + 1))]) (rest := []) hx hb hml hown hts hK hA hl.1 hP hD hS (c_X4_layGen l E q (mR1 z) pa sl sv sp pd od pm ty om st wr g (mTold (mR1 z) g n) 3 ((zg (mR1 z) g (15 + 5 * (mTold (mR1 z) g n) + 3)) + 1)  (by first | omega | exact hz _ _ (by omega) | exact hz | exact ⟨by omega, by omega⟩ | exact hr1) (by first | omega | exact hz _ _ (by omega) | exact hz | exact ⟨by omega, by omega⟩ | exact hr1)) gX4_readIt_X4_layGen rfl ndX4_layGen ⟨Nat.le_of_ble_eq_true rfl, Nat.le_of_ble_eq_true rfl⟩ rfl rfl rfl rfl rfl (Nat.le_of_ble_eq_true rfl) dX4_readIt_49 ⟨Nat.le_of_ble_eq_true rfl, Nat.le_of_ble_eq_true rfl⟩ (fun u H locs hpost hP hD hS => ?_)
    have hP : va_P E.1 vwCl (wM E q (zs (mR1 z) g (15 + 5 * (mTold (mR1 z) g n) + 3) ((zg (mR1 z) g (15 + 5 * (mTold (mR1 z) g n) + 3)) + 1)) pa sl sv sp pd od pm ty om st wr) H := hP
    have hD : va_D A (wM E q (zs (mR1 z) g (15 + 5 * (mTold (mR1 z) g n) + 3) ((zg (mR1 z) g (15 + 5 * (mTold (mR1 z) g n) + 3)) + 1)) pa sl sv sp pd od pm ty om st wr) := hD
    refine lv_aload_n hx hb dX4_readIt_52 rfl (lv_at hl 1 rfl) ?_
    refine lv_iload_n hx hb dX4_readIt_53 rfl (lv_at hl 2 rfl) ?_
    refine lv_iload_n hx hb dX4_readIt_54 rfl (lv_at hl 0 rfl) ?_
    refine lv_iconst (v := iI 2) hx hb dX4_readIt_55 (by decide) ?_
    refine z_callV0 (ci := 4) (qk := 0) (As := [.int (iI g), .int (iI (mTold (mR1 z) g n)), .int (iI 2)]) (rest := []) hx hb hml hown hts hK hA hl.1 hP hD hS (c_X4_gen l E q (zs (mR1 z) g (15 + 5 * (mTold (mR1 z) g n) + 3) ((zg (mR1 z) g (15 + 5 * (mTold (mR1 z) g n) + 3)) + 1)) pa sl sv sp pd od pm ty om st wr g (mTold (mR1 z) g n) 2  (by first | omega | exact hz _ _ (by omega) | exact hz | exact ⟨by omega, by omega⟩ | exact hr1) (by first | omega | exact hz _ _ (by omega) | exact hz | exact ⟨by omega, by omega⟩ | exact hr1)) gX4_readIt_X4_gen rfl ndX4_gen ⟨Nat.le_of_ble_eq_true rfl, Nat.le_of_ble_eq_true rfl⟩ rfl rfl rfl rfl rfl (Nat.le_of_ble_eq_true rfl) dX4_readIt_56 ⟨Nat.le_of_ble_eq_true rfl, Nat.le_of_ble_eq_true rfl⟩ (fun x u H locs hpost hP hD hS => ?_)
    subst hpost
    have hP : va_P E.1 vwCl (wM E q (zs (mR1 z) g (15 + 5 * (mTold (mR1 z) g n) + 3) ((zg (mR1 z) g (15 + 5 * (mTold (mR1 z) g n) + 3)) + 1)) pa sl sv sp pd od pm ty om st wr) H := hP
    have hD : va_D A (wM E q (zs (mR1 z) g (15 + 5 * (mTold (mR1 z) g n) + 3) ((zg (mR1 z) g (15 + 5 * (mTold (mR1 z) g n) + 3)) + 1)) pa sl sv sp pd od pm ty om st wr) := hD
    have eqc_z : (mRead z g n) = zs (mR1 z) g (15 + 5 * (mTold (mR1 z) g n) + 3) ((zg (mR1 z) g (15 + 5 * (mTold (mR1 z) g n) + 3)) + 1) := by unfold mRead; (first | rw [if_pos (by omega)] | rw [if_neg (by omega)])
    have hP : va_P E.1 vwCl (wM E q (mRead z g n) pa sl sv sp pd od pm ty om st wr) H := by rw [eqc_z]; exact hP
    have hD : va_D A (wM E q (mRead z g n) pa sl sv sp pd od pm ty om st wr) := by rw [eqc_z]; exact hD
    exact z_iret hx hb hr hlocks hK hS () (by unfold mReadR; (first | rw [if_pos (by omega)] | rw [if_neg (by omega)]); all_goals (first | rfl | rw [eqc_z])) hP hD dX4_readIt_59
  · refine lv_aload_n hx hb dX4_readIt_23 rfl (lv_at hl 1 rfl) ?_
    refine va_get (D := E.1) (cl := vwCl) (ci := 4) (v := .ref (q 1)) (C := RX4) (T := TX4) (N := 12) hx hb hts hinX4 hown hK hP 0 rfl rfl 0 (by decide) hf_7 (fun _ h => h) rfl dX4_readIt_24 ?_
    refine lv_iconst (v := iI 5) hx hb dX4_readIt_27 (by decide) ?_
    refine lv_dup2_11 hx hb dX4_readIt_28 rfl rfl ?_
    refine z_iald (D := E.1) (cl := vwCl) (tys := zT E) (f := mR1 z) hx hb hK hP 1 0 rfl rfl (by omega) (by omega) (by omega) dX4_readIt_29 ?_
    refine lv_iconst (v := iI 1) hx hb dX4_readIt_30 (by decide) ?_
    refine z_iadd hx hb dX4_readIt_31 ?_
    refine z_iast (D := E.1) (cl := vwCl) (tys := zT E) (f := mR1 z) hx hb hK hP hD hS 1 0 rfl rfl (by omega) (by omega) (by omega) dX4_readIt_32 (fun H locs hP hD hS => ?_)
    have hP : va_P E.1 vwCl (wM E q (iU (mR1 z) 5 (((mR1 z) 5) + 1)) pa sl sv sp pd od pm ty om st wr) H := hP
    have hD : va_D A (wM E q (iU (mR1 z) 5 (((mR1 z) 5) + 1)) pa sl sv sp pd od pm ty om st wr) := hD
    refine lv_bipush (v := iI (-6)) hx hb dX4_readIt_33 (by decide) ?_
    have eqc_z : (mRead z g n) = (iU (mR1 z) 5 (((mR1 z) 5) + 1)) := by unfold mRead; (first | rw [if_pos (by omega)] | rw [if_neg (by omega)])
    have hP : va_P E.1 vwCl (wM E q (mRead z g n) pa sl sv sp pd od pm ty om st wr) H := by rw [eqc_z]; exact hP
    have hD : va_D A (wM E q (mRead z g n) pa sl sv sp pd od pm ty om st wr) := by rw [eqc_z]; exact hD
    exact z_iret hx hb hr hlocks hK hS () (by unfold mReadR; (first | rw [if_pos (by omega)] | rw [if_neg (by omega)]); all_goals (first | rfl | rw [eqc_z])) hP hD dX4_readIt_35

theorem ndX4_deleteIt : yX4_deleteIt.cls = RX4 ∧ yX4_deleteIt.cls ≠ "java/lang/invoke/MethodHandle" ∧ yX4_deleteIt.cls ≠ "java/lang/invoke/VarHandle" ∧ (parseMethodDescriptor yX4_deleteIt.desc).map (fun d => d.parameters.length) = some 2 := by decide +kernel
set_option maxRecDepth 100000 in
set_option maxHeartbeats 4000000 in
theorem c_X4_deleteIt (l : Launch) (E : zE) (q : Nat → Nat) (z pa sl sv sp pd od : Int → Int) (pm ty om st wr : Int) (g : Int) (n : Int) (h0 : 0 ≤ g ∧ g ≤ 5) (h1 : -7 ≤ n ∧ n ≤ 1) (h2 : 0 ≤ zg z g 1 ∧ zg z g 1 ≤ 8) (h3 : CZ z) (h4 : rg (z 1)) (h5 : ¬ mTold z g n = -6) : zF l E yX4_deleteIt wsX4_deleteIt 5 110 [.ref (q 0), .int (iI g), .int (iI n)] (wM E q z pa sl sv sp pd od pm ty om st wr) (zg z g (15 + 5 * (mTold z g n) + 1)) (wM E q (mDel z g (mTold z g n)) pa sl sv sp pd od pm ty om st wr) := by
  have hz := h3
  have ht := mTold_rg (z := z) (g := g) (n := n) h2.1
  refine zC_of (cc := cX4_deleteIt) (maxL := 5) (by decide) rfl (Nat.le_of_ble_eq_true rfl) ?_
  intro p e s m below meth c ls A hx hb hr hts hown hlocks hml hK hA hS hP hD hl
  have hown : s.vm.findClass RX4 = some m.cls := hown
  have hl : lv_has ls 5 [(0, .ref (q 0)), (1, .int (iI g)), (2, .int (iI n))] := hl
  refine lv_aload_n hx hb dX4_deleteIt_0 rfl (lv_at hl 0 rfl) ?_
  refine lv_iload_n hx hb dX4_deleteIt_1 rfl (lv_at hl 1 rfl) ?_
  refine lv_iload_n hx hb dX4_deleteIt_2 rfl (lv_at hl 2 rfl) ?_
  refine z_callV0 (ci := 4) (qk := 0) (As := [.int (iI g), .int (iI n)]) (rest := []) hx hb hml hown hts hK hA hl.1 hP hD hS (c_X4_told l E q z pa sl sv sp pd od pm ty om st wr g n  (by first | omega | exact hz _ _ (by omega) | exact hz | exact ⟨by omega, by omega⟩) (by first | omega | exact hz _ _ (by omega) | exact hz | exact ⟨by omega, by omega⟩) (by first | omega | exact hz _ _ (by omega) | exact hz | exact ⟨by omega, by omega⟩) (by first | omega | exact hz _ _ (by omega) | exact hz | exact ⟨by omega, by omega⟩) (by first | omega | exact hz _ _ (by omega) | exact hz | exact ⟨by omega, by omega⟩)) gX4_deleteIt_X4_told rfl ndX4_told ⟨Nat.le_of_ble_eq_true rfl, Nat.le_of_ble_eq_true rfl⟩ rfl rfl rfl rfl rfl (Nat.le_of_ble_eq_true rfl) dX4_deleteIt_3 ⟨Nat.le_of_ble_eq_true rfl, Nat.le_of_ble_eq_true rfl⟩ (fun x u H locs hpost hP hD hS => ?_)
  subst hpost
  have hP : va_P E.1 vwCl (wM E q z pa sl sv sp pd od pm ty om st wr) H := hP
  have hD : va_D A (wM E q z pa sl sv sp pd od pm ty om st wr) := hD
  refine lv_istore_n (lv' := [(3, .int (iI (mTold z g n))), (0, .ref (q 0)), (1, .int (iI g)), (2, .int (iI n))]) hx hb dX4_deleteIt_6 rfl hl (by decide) rfl (fun ls hl => ?_)
  refine lv_aload_n hx hb dX4_deleteIt_7 rfl (lv_at hl 1 rfl) ?_
  refine lv_iload_n hx hb dX4_deleteIt_8 rfl (lv_at hl 2 rfl) ?_
  refine lv_iload_n hx hb dX4_deleteIt_9 rfl (lv_at hl 0 rfl) ?_
  refine lv_iconst (v := iI 1) hx hb dX4_deleteIt_10 (by decide) ?_
  refine z_callV0 (ci := 4) (qk := 0) (As := [.int (iI g), .int (iI (mTold z g n)), .int (iI 1)]) (rest := []) hx hb hml hown hts hK hA hl.1 hP hD hS (c_X4_gen l E q z pa sl sv sp pd od pm ty om st wr g (mTold z g n) 1  (by first | omega | exact hz _ _ (by omega) | exact hz | exact ⟨by omega, by omega⟩) (by first | omega | exact hz _ _ (by omega) | exact hz | exact ⟨by omega, by omega⟩)) gX4_deleteIt_X4_gen rfl ndX4_gen ⟨Nat.le_of_ble_eq_true rfl, Nat.le_of_ble_eq_true rfl⟩ rfl rfl rfl rfl rfl (Nat.le_of_ble_eq_true rfl) dX4_deleteIt_11 ⟨Nat.le_of_ble_eq_true rfl, Nat.le_of_ble_eq_true rfl⟩ (fun x u H locs hpost hP hD hS => ?_)
  subst hpost
  have hP : va_P E.1 vwCl (wM E q z pa sl sv sp pd od pm ty om st wr) H := hP
  have hD : va_D A (wM E q z pa sl sv sp pd od pm ty om st wr) := hD
  refine lv_istore (lv' := [(4, .int (iI (zg z g (15 + 5 * (mTold z g n) + 1)))), (3, .int (iI (mTold z g n))), (0, .ref (q 0)), (1, .int (iI g)), (2, .int (iI n))]) hx hb dX4_deleteIt_14 hl (by decide) rfl (fun ls hl => ?_)
  refine lv_aload_n hx hb dX4_deleteIt_16 rfl (lv_at hl 2 rfl) ?_
  refine lv_iload_n hx hb dX4_deleteIt_17 rfl (lv_at hl 3 rfl) ?_
  refine lv_iload_n hx hb dX4_deleteIt_18 rfl (lv_at hl 1 rfl) ?_
  refine z_callVv0 (ci := 4) (qk := 0) (As := [.int (iI g), .int (iI (mTold z g n))]) (rest := []) hx hb hml hown hts hK hA hl.1 hP hD hS (c_X4_deleteAt l E q z pa sl sv sp pd od pm ty om st wr g (mTold z g n)  (by first | omega | exact hz _ _ (by omega) | exact hz | exact ⟨by omega, by omega⟩) (by first | omega | exact hz _ _ (by omega) | exact hz | exact ⟨by omega, by omega⟩) (by first | omega | exact hz _ _ (by omega) | exact hz | exact ⟨by omega, by omega⟩) (by first | omega | exact hz _ _ (by omega) | exact hz | exact ⟨by omega, by omega⟩)) gX4_deleteIt_X4_deleteAt rfl ndX4_deleteAt ⟨Nat.le_of_ble_eq_true rfl, Nat.le_of_ble_eq_true rfl⟩ rfl rfl rfl rfl rfl (Nat.le_of_ble_eq_true rfl) dX4_deleteIt_19 ⟨Nat.le_of_ble_eq_true rfl, Nat.le_of_ble_eq_true rfl⟩ (fun u H locs hpost hP hD hS => ?_)
  have hP : va_P E.1 vwCl (wM E q (mDel z g (mTold z g n)) pa sl sv sp pd od pm ty om st wr) H := hP
  have hD : va_D A (wM E q (mDel z g (mTold z g n)) pa sl sv sp pd od pm ty om st wr) := hD
  refine lv_iload hx hb dX4_deleteIt_22 (lv_at hl 0 rfl) ?_
  exact z_iret hx hb hr hlocks hK hS () (by first | rfl | trivial | exact zb_t' (by omega) | exact zb_f' (by omega) | omega) hP hD dX4_deleteIt_24

theorem ndX4_canAgain : yX4_canAgain.cls = RX4 ∧ yX4_canAgain.cls ≠ "java/lang/invoke/MethodHandle" ∧ yX4_canAgain.cls ≠ "java/lang/invoke/VarHandle" ∧ (parseMethodDescriptor yX4_canAgain.desc).map (fun d => d.parameters.length) = some 0 := by decide +kernel
set_option maxRecDepth 100000 in
set_option maxHeartbeats 4000000 in
theorem c_X4_canAgain (l : Launch) (E : zE) (q : Nat → Nat) (z pa sl sv sp pd od : Int → Int) (pm ty om st wr : Int) (h0 : rg (z 1)) (h1 : rg (z 2)) : zF l E yX4_canAgain wsX4_canAgain 1 20 [.ref (q 0)] (wM E q z pa sl sv sp pd od pm ty om st wr) (zb (¬ z 1 = 1 ∧ z 2 = 1)) (wM E q z pa sl sv sp pd od pm ty om st wr) := by
  have hz := h0
  refine zC_of (cc := cX4_canAgain) (maxL := 1) (by decide) rfl (Nat.le_of_ble_eq_true rfl) ?_
  intro p e s m below meth c ls A hx hb hr hts hown hlocks hml hK hA hS hP hD hl
  have hown : s.vm.findClass RX4 = some m.cls := hown
  have hl : lv_has ls 1 [(0, .ref (q 0))] := hl
  have hinX4 : ∀ v ∈ u_ws RX4 TX4 12, v ∈ wsX4_canAgain := by decide +kernel
  have hf_7 := hts (.fieldLink RX4 7 "GenerationNamesModel" "z" "[I") (by decide +kernel)
  refine lv_aload_n hx hb dX4_canAgain_0 rfl (lv_at hl 0 rfl) ?_
  refine z_callV0 (ci := 4) (qk := 0) (As := []) (rest := []) hx hb hml hown hts hK hA hl.1 hP hD hS (c_X4_runs l E q z pa sl sv sp pd od pm ty om st wr   (by first | omega | exact hz _ _ (by omega) | exact hz | exact ⟨by omega, by omega⟩)) gX4_canAgain_X4_runs rfl ndX4_runs ⟨Nat.le_of_ble_eq_true rfl, Nat.le_of_ble_eq_true rfl⟩ rfl rfl rfl rfl rfl (Nat.le_of_ble_eq_true rfl) dX4_canAgain_1 ⟨Nat.le_of_ble_eq_true rfl, Nat.le_of_ble_eq_true rfl⟩ (fun x u H locs hpost hP hD hS => ?_)
  subst hpost
  have hP : va_P E.1 vwCl (wM E q z pa sl sv sp pd od pm ty om st wr) H := hP
  have hD : va_D A (wM E q z pa sl sv sp pd od pm ty om st wr) := hD
  refine z_ifb_ne (tgt := 21) hx hb dX4_canAgain_4 (by decide) (fun c_4 => ?_) (fun c_4 => ?_)
  · refine lv_iconst (v := iI 0) hx hb dX4_canAgain_21 (by decide) ?_
    exact z_zret hx hb hr hlocks hK hS (Or.inl rfl) () (by first | rfl | trivial | exact zb_t' (by omega) | exact zb_f' (by omega) | omega) hP hD dX4_canAgain_22
  · refine lv_aload_n hx hb dX4_canAgain_7 rfl (lv_at hl 0 rfl) ?_
    refine va_get (D := E.1) (cl := vwCl) (ci := 4) (v := .ref (q 1)) (C := RX4) (T := TX4) (N := 12) hx hb hts hinX4 hown hK hP 0 rfl rfl 0 (by decide) hf_7 (fun _ h => h) rfl dX4_canAgain_8 ?_
    refine lv_iconst (v := iI 2) hx hb dX4_canAgain_11 (by decide) ?_
    refine z_iald (D := E.1) (cl := vwCl) (tys := zT E) (f := z) hx hb hK hP 1 0 rfl rfl (by omega) (by omega) (by omega) dX4_canAgain_12 ?_
    refine lv_iconst (v := iI 1) hx hb dX4_canAgain_13 (by decide) ?_
    refine z_icmp_ne (tgt := 21) hx hb dX4_canAgain_14 (by decide) ⟨by first | omega | exact (hz _ _ (by omega)).1 | exact (hz _ _ (by omega)).2, by first | omega | exact (hz _ _ (by omega)).1 | exact (hz _ _ (by omega)).2⟩ ⟨by first | omega | exact (hz _ _ (by omega)).1 | exact (hz _ _ (by omega)).2, by first | omega | exact (hz _ _ (by omega)).1 | exact (hz _ _ (by omega)).2⟩ (fun c_14 => ?_) (fun c_14 => ?_)
    · refine lv_iconst (v := iI 0) hx hb dX4_canAgain_21 (by decide) ?_
      exact z_zret hx hb hr hlocks hK hS (Or.inl rfl) () (by first | rfl | trivial | exact zb_t' (by omega) | exact zb_f' (by omega) | omega) hP hD dX4_canAgain_22
    · refine lv_iconst (v := iI 1) hx hb dX4_canAgain_17 (by decide) ?_
      refine lv_goto (tgt := 22) hx hb dX4_canAgain_18 (by decide) ?_
      exact z_zret hx hb hr hlocks hK hS (Or.inr rfl) () (by first | rfl | trivial | exact zb_t' (by omega) | exact zb_f' (by omega) | omega) hP hD dX4_canAgain_22
