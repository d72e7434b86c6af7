theorem ndX1_countCharacters : yX1_countCharacters.cls = RX1 ∧ yX1_countCharacters.cls ≠ "java/lang/invoke/MethodHandle" ∧ yX1_countCharacters.cls ≠ "java/lang/invoke/VarHandle" ∧ (parseMethodDescriptor yX1_countCharacters.desc).map (fun d => d.parameters.length) = some 1 := by decide +kernel
set_option maxRecDepth 100000 in
set_option maxHeartbeats 400000 in
theorem c_X1_countCharacters (l : Launch) (E : zE) (q : Nat → Nat) (sg : Int → Int) (le : Int) (cu : Int) (h0 : 0 ≤ cu ∧ cu < 18446744073709551616) : zF l E yX1_countCharacters wsX1_countCharacters 0 0 [.ref (q 0), .long (lL cu)] (wPd E q sg le) (nC 8 cu 0) (wPd E q sg le) := by
  refine zC_of (cc := cX1_countCharacters) (maxL := 8) (by decide) rfl (Nat.le_of_ble_eq_true rfl) ?_
  intro p e s m below meth c ls A hx hb hr hts hown hlocks hml hK hA hS hP hD hl
  have hown : s.vm.findClass RX1 = some m.cls := hown
  have hl : lv_has ls 8 [(0, .ref (q 0)), (1, .long (lL cu))] := hl
  refine lv_lload_n hx hb dX1_countCharacters_0 rfl (lv_at hl 1 rfl) ?_
  refine lv_lstore_n (lv' := [(3, .long (lL cu)), (0, .ref (q 0)), (1, .long (lL cu))]) hx hb dX1_countCharacters_1 rfl hl (by decide) rfl (fun ls hl => ?_)
  refine lv_iconst (v := iI 0) hx hb dX1_countCharacters_2 (by decide) ?_
  refine lv_istore (lv' := [(5, .int (iI 0)), (3, .long (lL cu)), (0, .ref (q 0)), (1, .long (lL cu))]) hx hb dX1_countCharacters_3 hl (by decide) rfl (fun ls hl => ?_)
  have hloop5 : ∀ (n : Nat) (r1 : Int) (f1 : Int) (hmu : 8 - f1 = (n : Int)) (hi5_0 : nC (8 - f1).toNat r1 f1 = nC 8 cu 0) (hi5_1 : 0 ≤ f1 ∧ f1 ≤ 8) (hi5_2 : 0 ≤ r1 ∧ r1 < 18446744073709551616) (H : Heap) (locs : List Loc) (ls : Array Slot), va_P E.1 vwCl (wPd E q sg le) H → va_D A (wPd E q sg le) → va_S A s.heap H locs → lv_has ls 8 [(5, .int (iI f1)), (3, .long (lL r1)), (0, .ref (q 0)), (1, .long (lL cu))] → W p l e (zR 0 0) s m ([.ref (q 0), .long (lL cu)] : List Value).toArray below meth c H locs 0 0 (MQ below (zQ E A (S := Unit) (fun x _ => x = (nC 8 cu 0)) (fun _ => wPd E q sg le)) ([.ref (q 0), .long (lL cu)] : List Value).toArray s 0 0 A) (F0 m 5 ls []) := by
    intro n
    induction n using Nat.strongRecOn with
    | ind n ih5 =>
      intro r1 f1 hmu5 hi5_0 hi5_1 hi5_2 H locs ls hP hD hS hl
      refine lv_iload hx hb dX1_countCharacters_5 (lv_at hl 0 rfl) ?_
      refine lv_bipush (v := iI 8) hx hb dX1_countCharacters_7 (by decide) ?_
      refine z_icmp_ge (tgt := 60) hx hb dX1_countCharacters_9 (by decide) ⟨by first | omega | exact (sg0_rg _).1 | exact (sg0_rg _).2 | exact (cmpI_rg _ _).1 | exact (cmpI_rg _ _).2, by first | omega | exact (sg0_rg _).1 | exact (sg0_rg _).2 | exact (cmpI_rg _ _).1 | exact (cmpI_rg _ _).2⟩ ⟨by first | omega | exact (sg0_rg _).1 | exact (sg0_rg _).2 | exact (cmpI_rg _ _).1 | exact (cmpI_rg _ _).2, by first | omega | exact (sg0_rg _).1 | exact (sg0_rg _).2 | exact (cmpI_rg _ _).1 | exact (cmpI_rg _ _).2⟩ (fun c_9 => ?_) (fun c_9 => ?_)
      · refine lv_lload_n hx hb dX1_countCharacters_60 rfl (lv_at hl 1 rfl) ?_
        refine lv_lconst (v := lL 0) hx hb dX1_countCharacters_61 (by decide) ?_
        refine W.lcmp hx hb dX1_countCharacters_62 ?_
        rw [lL_cmp0 (by omega)]
        refine z_if_ne (tgt := 71) hx hb dX1_countCharacters_63 (by decide) ⟨by first | omega | exact (sg0_rg _).1 | exact (sg0_rg _).2 | exact (cmpI_rg _ _).1 | exact (cmpI_rg _ _).2, by first | omega | exact (sg0_rg _).1 | exact (sg0_rg _).2 | exact (cmpI_rg _ _).1 | exact (cmpI_rg _ _).2⟩ (fun c_63 => ?_) (fun c_63 => ?_)
        · rw [sg0_eq] at c_63
          refine lv_iconst (v := iI 0) hx hb dX1_countCharacters_71 (by decide) ?_
          exact z_iret hx hb hr hlocks hK hS () (by rw [← hi5_0]; first | (rw [nC_end (by omega)]; (first | rw [if_pos (by omega)] | rw [if_neg (by omega)])) | exact (nC_bad (by omega) c_19 (by omega)).symm | (rw [nC_z c_19]; (first | rw [if_pos (by omega)] | rw [if_neg (by omega)]))) hP hD dX1_countCharacters_72
        · rw [sg0_eq] at c_63
          refine lv_iload hx hb dX1_countCharacters_66 (lv_at hl 0 rfl) ?_
          refine lv_goto (tgt := 72) hx hb dX1_countCharacters_68 (by decide) ?_
          exact z_iret hx hb hr hlocks hK hS () (by rw [← hi5_0]; first | (rw [nC_end (by omega)]; (first | rw [if_pos (by omega)] | rw [if_neg (by omega)])) | exact (nC_bad (by omega) c_19 (by omega)).symm | (rw [nC_z c_19]; (first | rw [if_pos (by omega)] | rw [if_neg (by omega)]))) hP hD dX1_countCharacters_72
      · refine lv_lload_n hx hb dX1_countCharacters_12 rfl (lv_at hl 1 rfl) ?_
        refine lv_ldc2 (v := 255) hx hb hown (hts (.constantLong RX1 23 (255)) (by decide +kernel)) dX1_countCharacters_13 ?_
        rw [show (255 : Int64) = lL 255 from rfl]
        refine lv_land hx hb dX1_countCharacters_16 ?_
        rw [lL_and]
        refine lv_lconst (v := lL 0) hx hb dX1_countCharacters_17 (by decide) ?_
        refine W.lcmp hx hb dX1_countCharacters_18 ?_
        rw [lL_cmp0 (by omega)]
        refine z_if_eq (tgt := 60) hx hb dX1_countCharacters_19 (by decide) ⟨by first | omega | exact (sg0_rg _).1 | exact (sg0_rg _).2 | exact (cmpI_rg _ _).1 | exact (cmpI_rg _ _).2, by first | omega | exact (sg0_rg _).1 | exact (sg0_rg _).2 | exact (cmpI_rg _ _).1 | exact (cmpI_rg _ _).2⟩ (fun c_19 => ?_) (fun c_19 => ?_)
        · rw [sg0_eq] at c_19
          refine lv_lload_n hx hb dX1_countCharacters_60 rfl (lv_at hl 1 rfl) ?_
          refine lv_lconst (v := lL 0) hx hb dX1_countCharacters_61 (by decide) ?_
          refine W.lcmp hx hb dX1_countCharacters_62 ?_
          rw [lL_cmp0 (by omega)]
          refine z_if_ne (tgt := 71) hx hb dX1_countCharacters_63 (by decide) ⟨by first | omega | exact (sg0_rg _).1 | exact (sg0_rg _).2 | exact (cmpI_rg _ _).1 | exact (cmpI_rg _ _).2, by first | omega | exact (sg0_rg _).1 | exact (sg0_rg _).2 | exact (cmpI_rg _ _).1 | exact (cmpI_rg _ _).2⟩ (fun c_63 => ?_) (fun c_63 => ?_)
          · rw [sg0_eq] at c_63
            refine lv_iconst (v := iI 0) hx hb dX1_countCharacters_71 (by decide) ?_
            exact z_iret hx hb hr hlocks hK hS () (by rw [← hi5_0]; first | (rw [nC_end (by omega)]; (first | rw [if_pos (by omega)] | rw [if_neg (by omega)])) | exact (nC_bad (by omega) c_19 (by omega)).symm | (rw [nC_z c_19]; (first | rw [if_pos (by omega)] | rw [if_neg (by omega)]))) hP hD dX1_countCharacters_72
          · rw [sg0_eq] at c_63
            refine lv_iload hx hb dX1_countCharacters_66 (lv_at hl 0 rfl) ?_
            refine lv_goto (tgt := 72) hx hb dX1_countCharacters_68 (by decide) ?_
            exact z_iret hx hb hr hlocks hK hS () (by rw [← hi5_0]; first | (rw [nC_end (by omega)]; (first | rw [if_pos (by omega)] | rw [if_neg (by omega)])) | exact (nC_bad (by omega) c_19 (by omega)).symm | (rw [nC_z c_19]; (first | rw [if_pos (by omega)] | rw [if_neg (by omega)]))) hP hD dX1_countCharacters_72
        · rw [sg0_eq] at c_19
          refine lv_lload_n hx hb dX1_countCharacters_22 rfl (lv_at hl 1 rfl) ?_
          refine lv_ldc2 (v := 255) hx hb hown (hts (.constantLong RX1 23 (255)) (by decide +kernel)) dX1_countCharacters_23 ?_
          rw [show (255 : Int64) = lL 255 from rfl]
          refine lv_land hx hb dX1_countCharacters_26 ?_
          rw [lL_and]
          refine lv_lstore (lv' := [(6, .long (lL (r1 % 256))), (5, .int (iI f1)), (3, .long (lL r1)), (0, .ref (q 0)), (1, .long (lL cu))]) hx hb dX1_countCharacters_27 hl (by decide) rfl (fun ls hl => ?_)
          refine lv_lload hx hb dX1_countCharacters_29 (lv_at hl 0 rfl) ?_
          refine lv_ldc2 (v := 33) hx hb hown (hts (.constantLong RX1 25 (33)) (by decide +kernel)) dX1_countCharacters_31 ?_
          rw [show (33 : Int64) = lL 33 from rfl]
          refine W.lcmp hx hb dX1_countCharacters_34 ?_
          rw [lL_cmp (by omega) (by omega)]
          refine z_if_lt (tgt := 47) hx hb dX1_countCharacters_35 (by decide) ⟨by first | omega | exact (sg0_rg _).1 | exact (sg0_rg _).2 | exact (cmpI_rg _ _).1 | exact (cmpI_rg _ _).2, by first | omega | exact (sg0_rg _).1 | exact (sg0_rg _).2 | exact (cmpI_rg _ _).1 | exact (cmpI_rg _ _).2⟩ (fun c_35 => ?_) (fun c_35 => ?_)
          · rw [cmpI_lt] at c_35
            refine lv_iconst (v := iI 0) hx hb dX1_countCharacters_47 (by decide) ?_
            exact z_iret hx hb hr hlocks hK hS () (by rw [← hi5_0]; first | (rw [nC_end (by omega)]; (first | rw [if_pos (by omega)] | rw [if_neg (by omega)])) | exact (nC_bad (by omega) c_19 (by omega)).symm | (rw [nC_z c_19]; (first | rw [if_pos (by omega)] | rw [if_neg (by omega)]))) hP hD dX1_countCharacters_48
          · rw [cmpI_lt] at c_35
            refine lv_lload hx hb dX1_countCharacters_38 (lv_at hl 0 rfl) ?_
            refine lv_ldc2 (v := 126) hx hb hown (hts (.constantLong RX1 27 (126)) (by decide +kernel)) dX1_countCharacters_40 ?_
            rw [show (126 : Int64) = lL 126 from rfl]
            refine W.lcmp hx hb dX1_countCharacters_43 ?_
            rw [lL_cmp (by omega) (by omega)]
            refine z_if_le (tgt := 49) hx hb dX1_countCharacters_44 (by decide) ⟨by first | omega | exact (sg0_rg _).1 | exact (sg0_rg _).2 | exact (cmpI_rg _ _).1 | exact (cmpI_rg _ _).2, by first | omega | exact (sg0_rg _).1 | exact (sg0_rg _).2 | exact (cmpI_rg _ _).1 | exact (cmpI_rg _ _).2⟩ (fun c_44 => ?_) (fun c_44 => ?_)
            · rw [cmpI_le] at c_44
              refine lv_lload_n hx hb dX1_countCharacters_49 rfl (lv_at hl 2 rfl) ?_
              refine lv_bipush (v := iI 8) hx hb dX1_countCharacters_50 (by decide) ?_
              refine lv_lushr (v := lL (r1 / 256)) hx hb dX1_countCharacters_52 (lL_shr8 (by omega)) ?_
              refine lv_lstore_n (lv' := [(3, .long (lL (r1 / 256))), (6, .long (lL (r1 % 256))), (5, .int (iI f1)), (0, .ref (q 0)), (1, .long (lL cu))]) hx hb dX1_countCharacters_53 rfl hl (by decide) rfl (fun ls hl => ?_)
              refine lv_iinc (v := iI (f1 + 1)) (lv' := [(5, .int (iI (f1 + 1))), (3, .long (lL (r1 / 256))), (6, .long (lL (r1 % 256))), (0, .ref (q 0)), (1, .long (lL cu))]) hx hb dX1_countCharacters_54 hl (k := 2) rfl (iI_add _ _) (by decide) rfl (fun ls hl => ?_)
              refine lv_goto (tgt := 5) hx hb dX1_countCharacters_57 (by decide) ?_
              exact ih5 (8 - (f1 + 1) : Int).toNat (by omega) (r1 / 256) (f1 + 1) (by omega) (by rw [← hi5_0]; exact (nC_step (by omega) c_19 (by omega)).symm) (by omega) (by omega) _ _ ls hP hD hS (lv_sub hl [0, 1, 3, 4] rfl)
            · rw [cmpI_le] at c_44
              refine lv_iconst (v := iI 0) hx hb dX1_countCharacters_47 (by decide) ?_
              exact z_iret hx hb hr hlocks hK hS () (by rw [← hi5_0]; first | (rw [nC_end (by omega)]; (first | rw [if_pos (by omega)] | rw [if_neg (by omega)])) | exact (nC_bad (by omega) c_19 (by omega)).symm | (rw [nC_z c_19]; (first | rw [if_pos (by omega)] | rw [if_neg (by omega)]))) hP hD dX1_countCharacters_48
  exact hloop5 (8 - 0 : Int).toNat cu 0 (by omega) (rfl) (by omega) (by omega) _ _ ls hP hD hS (lv_sub hl [0, 1, 2, 3] rfl)

theorem ndX1_append : yX1_append.cls = RX1 ∧ yX1_append.cls ≠ "java/lang/invoke/MethodHandle" ∧ yX1_append.cls ≠ "java/lang/invoke/VarHandle" ∧ (parseMethodDescriptor yX1_append.desc).map (fun d => d.parameters.length) = some 1 := by decide +kernel
set_option maxRecDepth 100000 in
set_option maxHeartbeats 400000 in
theorem c_X1_append (l : Launch) (E : zE) (q : Nat → Nat) (sg : Int → Int) (le : Int) (cu : Int) (h0 : 0 ≤ cu ∧ cu < 18446744073709551616) (h1 : 0 ≤ le ∧ le ≤ 80) : zF l E yX1_append wsX1_append 1 27 [.ref (q 0), .long (lL cu)] (wPd E q sg le) (if nC 8 cu 0 < 1 then -2 else if 80 < le + nC 8 cu 0 then -4 else le + nC 8 cu 0) (wPd E q (if 1 ≤ nC 8 cu 0 ∧ le + nC 8 cu 0 ≤ 80 then apS sg le cu (nC 8 cu 0) else sg) (if 1 ≤ nC 8 cu 0 ∧ le + nC 8 cu 0 ≤ 80 then le + nC 8 cu 0 else le)) := by
  have hn := nC_rg 8 cu 0 (by omega)
  refine zC_of (cc := cX1_append) (maxL := 5) (by decide) rfl (Nat.le_of_ble_eq_true rfl) ?_
  intro p e s m below meth c ls A hx hb hr hts hown hlocks hml hK hA hS hP hD hl
  have hown : s.vm.findClass RX1 = some m.cls := hown
  have hl : lv_has ls 5 [(0, .ref (q 0)), (1, .long (lL cu))] := hl
  have hinX1 : ∀ v ∈ u_ws RX1 TX1 2, v ∈ wsX1_append := by decide +kernel
  have hf_15 := hts (.fieldLink RX1 15 "GenerationNames$Pad" "length" "I") (by decide +kernel)
  have hf_9 := hts (.fieldLink RX1 9 "GenerationNames$Pad" "signs" "[C") (by decide +kernel)
  refine lv_aload_n hx hb dX1_append_0 rfl (lv_at hl 0 rfl) ?_
  refine lv_lload_n hx hb dX1_append_1 rfl (lv_at hl 1 rfl) ?_
  refine z_callV0 (ci := 1) (qk := 0) (As := [.long (lL cu)]) (rest := []) hx hb hml hown hts hK hA hl.1 hP hD hS (c_X1_countCharacters l E q sg le cu  (by first | omega | assumption)) gX1_append_X1_countCharacters rfl ndX1_countCharacters ⟨Nat.le_of_ble_eq_true rfl, Nat.le_of_ble_eq_true rfl⟩ rfl rfl rfl rfl rfl (Nat.le_of_ble_eq_true rfl) dX1_append_2 ⟨Nat.le_of_ble_eq_true rfl, Nat.le_of_ble_eq_true rfl⟩ (fun x u H locs hpost hP hD hS => ?_)
  subst hpost
  have hP : va_P E.1 vwCl (wPd E q sg le) H := hP
  have hD : va_D A (wPd E q sg le) := hD
  refine lv_istore_n (lv' := [(3, .int (iI (nC 8 cu 0))), (0, .ref (q 0)), (1, .long (lL cu))]) hx hb dX1_append_5 rfl hl (by decide) rfl (fun ls hl => ?_)
  refine lv_iload_n hx hb dX1_append_6 rfl (lv_at hl 0 rfl) ?_
  refine lv_iconst (v := iI 1) hx hb dX1_append_7 (by decide) ?_
  refine z_icmp_ge (tgt := 14) hx hb dX1_append_8 (by decide) ⟨by omega, by omega⟩ ⟨by omega, by omega⟩ (fun c_8 => ?_) (fun c_8 => ?_)
  · refine lv_aload_n hx hb dX1_append_14 rfl (lv_at hl 1 rfl) ?_
    refine va_get (D := E.1) (cl := vwCl) (ci := 1) (v := .int (iI le)) (C := RX1) (T := TX1) (N := 2) hx hb hts hinX1 hown hK hP 0 rfl rfl 1 (by decide) hf_15 (fun _ h => h) rfl dX1_append_15 ?_
    refine lv_iload_n hx hb dX1_append_18 rfl (lv_at hl 0 rfl) ?_
    refine z_iadd hx hb dX1_append_19 ?_
    refine lv_bipush (v := iI 80) hx hb dX1_append_20 (by decide) ?_
    refine z_icmp_le (tgt := 28) hx hb dX1_append_22 (by decide) ⟨by omega, by omega⟩ ⟨by omega, by omega⟩ (fun c_22 => ?_) (fun c_22 => ?_)
    · refine lv_bipush (v := iI 8) hx hb dX1_append_28 (by decide) ?_
      refine lv_iload_n hx hb dX1_append_30 rfl (lv_at hl 0 rfl) ?_
      refine lv_iconst (v := iI 1) hx hb dX1_append_31 (by decide) ?_
      refine z_isub hx hb dX1_append_32 ?_
      refine z_imul hx hb dX1_append_33 ?_
      refine lv_istore (lv' := [(4, .int (iI (8 * ((nC 8 cu 0) - 1)))), (3, .int (iI (nC 8 cu 0))), (0, .ref (q 0)), (1, .long (lL cu))]) hx hb dX1_append_34 hl (by decide) rfl (fun ls hl => ?_)
      have hloop36 : ∀ (n : Nat) (g1 : Int → Int) (l1 : Int) (s1 : Int) (hmu : s1 + 8 = (n : Int)) (hi36_0 : g1 = itr (fun j y => iU y (le + j) (chA cu (8 * (nC 8 cu 0 - 1 - j)))) sg (l1 - le).toNat) (hi36_1 : le ≤ l1 ∧ l1 ≤ le + nC 8 cu 0) (hi36_2 : s1 = 8 * (nC 8 cu 0 - 1 - (l1 - le))) (H : Heap) (locs : List Loc) (ls : Array Slot), va_P E.1 vwCl (wPd E q g1 l1) H → va_D A (wPd E q g1 l1) → va_S A s.heap H locs → lv_has ls 5 [(4, .int (iI s1)), (3, .int (iI (nC 8 cu 0))), (0, .ref (q 0)), (1, .long (lL cu))] → W p l e (zR 1 27) s m ([.ref (q 0), .long (lL cu)] : List Value).toArray below meth c H locs 0 0 (MQ below (zQ E A (S := Unit) (fun x _ => x = (if nC 8 cu 0 < 1 then -2 else if 80 < le + nC 8 cu 0 then -4 else le + nC 8 cu 0)) (fun _ => wPd E q (if 1 ≤ nC 8 cu 0 ∧ le + nC 8 cu 0 ≤ 80 then apS sg le cu (nC 8 cu 0) else sg) (if 1 ≤ nC 8 cu 0 ∧ le + nC 8 cu 0 ≤ 80 then le + nC 8 cu 0 else le))) ([.ref (q 0), .long (lL cu)] : List Value).toArray s 0 0 A) (F0 m 36 ls []) := by
        intro n
        induction n using Nat.strongRecOn with
        | ind n ih36 =>
          intro g1 l1 s1 hmu36 hi36_0 hi36_1 hi36_2 H locs ls hP hD hS hl
          refine lv_iload hx hb dX1_append_36 (lv_at hl 0 rfl) ?_
          refine z_if_lt (tgt := 76) hx hb dX1_append_38 (by decide) ⟨by omega, by omega⟩ (fun c_38 => ?_) (fun c_38 => ?_)
          · refine lv_aload_n hx hb dX1_append_76 rfl (lv_at hl 2 rfl) ?_
            refine va_get (D := E.1) (cl := vwCl) (ci := 1) (v := .int (iI l1)) (C := RX1) (T := TX1) (N := 2) hx hb hts hinX1 hown hK hP 0 rfl rfl 1 (by decide) hf_15 (fun _ h => h) rfl dX1_append_77 ?_
            have eqc_sg : (if 1 ≤ nC 8 cu 0 ∧ le + nC 8 cu 0 ≤ 80 then apS sg le cu (nC 8 cu 0) else sg) = g1 := by (first | rw [if_pos (by omega)] | rw [if_neg (by omega)]); all_goals (rw [hi36_0, show l1 - le = nC 8 cu 0 by omega]; rfl)
            have eqc_le : (if 1 ≤ nC 8 cu 0 ∧ le + nC 8 cu 0 ≤ 80 then le + nC 8 cu 0 else le) = l1 := by (first | rw [if_pos (by omega)] | rw [if_neg (by omega)]); all_goals omega
            have hP : va_P E.1 vwCl (wPd E q (if 1 ≤ nC 8 cu 0 ∧ le + nC 8 cu 0 ≤ 80 then apS sg le cu (nC 8 cu 0) else sg) (if 1 ≤ nC 8 cu 0 ∧ le + nC 8 cu 0 ≤ 80 then le + nC 8 cu 0 else le)) H := by rw [eqc_sg, eqc_le]; exact hP
            have hD : va_D A (wPd E q (if 1 ≤ nC 8 cu 0 ∧ le + nC 8 cu 0 ≤ 80 then apS sg le cu (nC 8 cu 0) else sg) (if 1 ≤ nC 8 cu 0 ∧ le + nC 8 cu 0 ≤ 80 then le + nC 8 cu 0 else le)) := by rw [eqc_sg, eqc_le]; exact hD
            exact z_iret hx hb hr hlocks hK hS () (by first | (rw [if_pos (by omega)]; done) | (rw [if_neg (by omega), if_pos (by omega)]; done) | (rw [if_neg (by omega), if_neg (by omega)]; omega)) hP hD dX1_append_80
          · refine lv_aload_n hx hb dX1_append_41 rfl (lv_at hl 2 rfl) ?_
            refine va_get (D := E.1) (cl := vwCl) (ci := 1) (v := .ref (q 1)) (C := RX1) (T := TX1) (N := 2) hx hb hts hinX1 hown hK hP 0 rfl rfl 0 (by decide) hf_9 (fun _ h => h) rfl dX1_append_42 ?_
            refine lv_aload_n hx hb dX1_append_45 rfl (lv_at hl 2 rfl) ?_
            refine va_get (D := E.1) (cl := vwCl) (ci := 1) (v := .int (iI l1)) (C := RX1) (T := TX1) (N := 2) hx hb hts hinX1 hown hK hP 0 rfl rfl 1 (by decide) hf_15 (fun _ h => h) rfl dX1_append_46 ?_
            refine lv_lload_n hx hb dX1_append_49 rfl (lv_at hl 3 rfl) ?_
            refine lv_iload hx hb dX1_append_50 (lv_at hl 0 rfl) ?_
            refine lv_lushr (v := lL (cu / 2 ^ (s1).toNat)) hx hb dX1_append_52 (lL_shr (by omega) (by omega)) ?_
            refine lv_ldc2 (v := 255) hx hb hown (hts (.constantLong RX1 23 (255)) (by decide +kernel)) dX1_append_53 ?_
            rw [show (255 : Int64) = lL 255 from rfl]
            refine lv_land hx hb dX1_append_56 ?_
            rw [lL_and]
            refine lv_l2i (v := iI ((cu / 2 ^ (s1).toNat) % 256)) hx hb dX1_append_57 (lL_i _) ?_
            refine lv_i2c (v := iI ((cu / 2 ^ (s1).toNat) % 256)) hx hb dX1_append_58 (i2c_ok (by omega)) ?_
            refine z_cast (D := E.1) (cl := vwCl) (tys := zT E) (f := g1) hx hb hK hP hD hS 1 2 rfl rfl (nar_ok (by omega)) (by omega) (by omega) (by omega) dX1_append_59 (fun H locs hP hD hS => ?_)
            have hP : va_P E.1 vwCl (wPd E q (iU g1 l1 ((cu / 2 ^ (s1).toNat) % 256)) l1) H := hP
            have hD : va_D A (wPd E q (iU g1 l1 ((cu / 2 ^ (s1).toNat) % 256)) l1) := hD
            refine lv_aload_n hx hb dX1_append_60 rfl (lv_at hl 2 rfl) ?_
            refine lv_dup hx hb dX1_append_61 rfl ?_
            refine va_get (D := E.1) (cl := vwCl) (ci := 1) (v := .int (iI l1)) (C := RX1) (T := TX1) (N := 2) hx hb hts hinX1 hown hK hP 0 rfl rfl 1 (by decide) hf_15 (fun _ h => h) rfl dX1_append_62 ?_
            refine lv_iconst (v := iI 1) hx hb dX1_append_65 (by decide) ?_
            refine z_iadd hx hb dX1_append_66 ?_
            refine va_put (D := E.1) (cl := vwCl) (ci := 1) (v := .int (iI (l1 + 1))) (ty := .int) (C := RX1) (T := TX1) (N := 2) hx hb hts hinX1 tyX1 tyX1_ok nmX1 hown hK hP hD hS 0 rfl rfl 1 (by decide) hf_15 (fun _ h => h) rfl (by decide +kernel) (rfl) (rfl) (Nat.le_of_ble_eq_true rfl) dX1_append_67 (fun H locs hP hD hS => ?_)
            have hP : va_P E.1 vwCl (wPd E q (iU g1 l1 ((cu / 2 ^ (s1).toNat) % 256)) (l1 + 1)) H := hP
            have hD : va_D A (wPd E q (iU g1 l1 ((cu / 2 ^ (s1).toNat) % 256)) (l1 + 1)) := hD
            refine lv_iinc (v := iI (s1 + (-8))) (lv' := [(4, .int (iI (s1 + (-8)))), (3, .int (iI (nC 8 cu 0))), (0, .ref (q 0)), (1, .long (lL cu))]) hx hb dX1_append_70 hl (k := 0) rfl (iI_add _ _) (by decide) rfl (fun ls hl => ?_)
            refine lv_goto (tgt := 36) hx hb dX1_append_73 (by decide) ?_
            exact ih36 ((s1 + (-8)) + 8 : Int).toNat (by omega) (iU g1 l1 ((cu / 2 ^ (s1).toNat) % 256)) (l1 + 1) (s1 + (-8)) (by omega) (by rw [show l1 + 1 - le = (l1 - le) + 1 by omega, itr_step (by omega), ← hi36_0, show le + (l1 - le) = l1 by omega, ← hi36_2]; rfl) (by omega) (by omega) _ _ ls hP hD hS (lv_sub hl [0, 1, 2, 3] rfl)
      exact hloop36 ((8 * ((nC 8 cu 0) - 1)) + 8 : Int).toNat sg le (8 * ((nC 8 cu 0) - 1)) (by omega) (by rw [show le - le = 0 by omega]; rfl) (by omega) (by omega) _ _ ls hP hD hS (lv_sub hl [0, 1, 2, 3] rfl)
    · refine lv_bipush (v := iI (-4)) hx hb dX1_append_25 (by decide) ?_
      have eqc_sg : (if 1 ≤ nC 8 cu 0 ∧ le + nC 8 cu 0 ≤ 80 then apS sg le cu (nC 8 cu 0) else sg) = sg := by (first | rw [if_pos (by omega)] | rw [if_neg (by omega)]); all_goals (rw [hi36_0, show l1 - le = nC 8 cu 0 by omega]; rfl)
      have eqc_le : (if 1 ≤ nC 8 cu 0 ∧ le + nC 8 cu 0 ≤ 80 then le + nC 8 cu 0 else le) = le := by (first | rw [if_pos (by omega)] | rw [if_neg (by omega)]); all_goals omega
      have hP : va_P E.1 vwCl (wPd E q (if 1 ≤ nC 8 cu 0 ∧ le + nC 8 cu 0 ≤ 80 then apS sg le cu (nC 8 cu 0) else sg) (if 1 ≤ nC 8 cu 0 ∧ le + nC 8 cu 0 ≤ 80 then le + nC 8 cu 0 else le)) H := by rw [eqc_sg, eqc_le]; exact hP
      have hD : va_D A (wPd E q (if 1 ≤ nC 8 cu 0 ∧ le + nC 8 cu 0 ≤ 80 then apS sg le cu (nC 8 cu 0) else sg) (if 1 ≤ nC 8 cu 0 ∧ le + nC 8 cu 0 ≤ 80 then le + nC 8 cu 0 else le)) := by rw [eqc_sg, eqc_le]; exact hD
      exact z_iret hx hb hr hlocks hK hS () (by first | (rw [if_pos (by omega)]; done) | (rw [if_neg (by omega), if_pos (by omega)]; done) | (rw [if_neg (by omega), if_neg (by omega)]; omega)) hP hD dX1_append_27
  · refine lv_bipush (v := iI (-2)) hx hb dX1_append_11 (by decide) ?_
    have eqc_sg : (if 1 ≤ nC 8 cu 0 ∧ le + nC 8 cu 0 ≤ 80 then apS sg le cu (nC 8 cu 0) else sg) = sg := by (first | rw [if_pos (by omega)] | rw [if_neg (by omega)]); all_goals (rw [hi36_0, show l1 - le = nC 8 cu 0 by omega]; rfl)
    have eqc_le : (if 1 ≤ nC 8 cu 0 ∧ le + nC 8 cu 0 ≤ 80 then le + nC 8 cu 0 else le) = le := by (first | rw [if_pos (by omega)] | rw [if_neg (by omega)]); all_goals omega
    have hP : va_P E.1 vwCl (wPd E q (if 1 ≤ nC 8 cu 0 ∧ le + nC 8 cu 0 ≤ 80 then apS sg le cu (nC 8 cu 0) else sg) (if 1 ≤ nC 8 cu 0 ∧ le + nC 8 cu 0 ≤ 80 then le + nC 8 cu 0 else le)) H := by rw [eqc_sg, eqc_le]; exact hP
    have hD : va_D A (wPd E q (if 1 ≤ nC 8 cu 0 ∧ le + nC 8 cu 0 ≤ 80 then apS sg le cu (nC 8 cu 0) else sg) (if 1 ≤ nC 8 cu 0 ∧ le + nC 8 cu 0 ≤ 80 then le + nC 8 cu 0 else le)) := by rw [eqc_sg, eqc_le]; exact hD
    exact z_iret hx hb hr hlocks hK hS () (by first | (rw [if_pos (by omega)]; done) | (rw [if_neg (by omega), if_pos (by omega)]; done) | (rw [if_neg (by omega), if_neg (by omega)]; omega)) hP hD dX1_append_13
