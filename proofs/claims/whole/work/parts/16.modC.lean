theorem ndX4_told : yX4_told.cls = RX4 ∧ yX4_told.cls ≠ "java/lang/invoke/MethodHandle" ∧ yX4_told.cls ≠ "java/lang/invoke/VarHandle" ∧ (parseMethodDescriptor yX4_told.desc).map (fun d => d.parameters.length) = some 2 := by decide +kernel
set_option maxRecDepth 100000 in
set_option maxHeartbeats 4000000 in
theorem c_X4_told (l : Launch) (E : zE) (q : Nat → Nat) (z pa sl sv sp pd od : Int → Int) (pm ty om st wr : Int) (g : Int) (n : Int) (h0 : 0 ≤ g ∧ g ≤ 5) (h1 : -7 ≤ n ∧ n ≤ 1) (h2 : 0 ≤ zg z g 1 ∧ zg z g 1 ≤ 8) (h3 : CZ z) (h4 : rg (z 1)) : zF l E yX4_told wsX4_told 3 69 [.ref (q 0), .int (iI g), .int (iI n)] (wM E q z pa sl sv sp pd od pm ty om st wr) (mTold z g n) (wM E q z pa sl sv sp pd od pm ty om st wr) := by
  have hz := h3
  have hp := mPlace_rg (z := z) (g := g) (m := mMark z g n) h2.1
  refine zC_of (cc := cX4_told) (maxL := 4) (by decide) rfl (Nat.le_of_ble_eq_true rfl) ?_
  intro p e s m below meth c ls A hx hb hr hts hown hlocks hml hK hA hS hP hD hl
  have hown : s.vm.findClass RX4 = some m.cls := hown
  have hl : lv_has ls 4 [(0, .ref (q 0)), (1, .int (iI g)), (2, .int (iI n))] := hl
  refine lv_bipush (v := iI (-6)) hx hb dX4_told_0 (by decide) ?_
  refine lv_istore_n (lv' := [(3, .int (iI (-6))), (0, .ref (q 0)), (1, .int (iI g)), (2, .int (iI n))]) hx hb dX4_told_2 rfl hl (by decide) rfl (fun ls hl => ?_)
  refine lv_aload_n hx hb dX4_told_3 rfl (lv_at hl 1 rfl) ?_
  refine z_callV0 (ci := 4) (qk := 0) (As := []) (rest := []) hx hb hml hown hts hK hA hl.1 hP hD hS (c_X4_runs l E q z pa sl sv sp pd od pm ty om st wr   (by first | omega | exact hz _ _ (by omega) | exact hz | exact ⟨by omega, by omega⟩ | exact mMark_rg hz h0 h1)) gX4_told_X4_runs rfl ndX4_runs ⟨Nat.le_of_ble_eq_true rfl, Nat.le_of_ble_eq_true rfl⟩ rfl rfl rfl rfl rfl (Nat.le_of_ble_eq_true rfl) dX4_told_4 ⟨Nat.le_of_ble_eq_true rfl, Nat.le_of_ble_eq_true rfl⟩ (fun x u H locs hpost hP hD hS => ?_)
  subst hpost
  have hP : va_P E.1 vwCl (wM E q z pa sl sv sp pd od pm ty om st wr) H := hP
  have hD : va_D A (wM E q z pa sl sv sp pd od pm ty om st wr) := hD
  refine z_ifb_eq (tgt := 39) hx hb dX4_told_7 (by decide) (fun c_7 => ?_) (fun c_7 => ?_)
  · refine lv_iload_n hx hb dX4_told_39 rfl (lv_at hl 3 rfl) ?_
    refine lv_iconst (v := iI 1) hx hb dX4_told_40 (by decide) ?_
    refine z_icmp_ge (tgt := 57) hx hb dX4_told_41 (by decide) ⟨by first | omega | exact (hz _ _ (by omega)).1 | exact (hz _ _ (by omega)).2 | exact (mMark_rg hz h0 h1).1 | exact (mMark_rg hz h0 h1).2, by first | omega | exact (hz _ _ (by omega)).1 | exact (hz _ _ (by omega)).2 | exact (mMark_rg hz h0 h1).1 | exact (mMark_rg hz h0 h1).2⟩ ⟨by first | omega | exact (hz _ _ (by omega)).1 | exact (hz _ _ (by omega)).2 | exact (mMark_rg hz h0 h1).1 | exact (mMark_rg hz h0 h1).2, by first | omega | exact (hz _ _ (by omega)).1 | exact (hz _ _ (by omega)).2 | exact (mMark_rg hz h0 h1).1 | exact (mMark_rg hz h0 h1).2⟩ (fun c_41 => ?_) (fun c_41 => ?_)
    · refine lv_iload_n hx hb dX4_told_57 rfl (lv_at hl 0 rfl) ?_
      refine lv_bipush (v := iI (-6)) hx hb dX4_told_58 (by decide) ?_
      refine z_icmp_eq (tgt := 72) hx hb dX4_told_60 (by decide) ⟨by first | omega | exact (hz _ _ (by omega)).1 | exact (hz _ _ (by omega)).2 | exact (mMark_rg hz h0 h1).1 | exact (mMark_rg hz h0 h1).2, by first | omega | exact (hz _ _ (by omega)).1 | exact (hz _ _ (by omega)).2 | exact (mMark_rg hz h0 h1).1 | exact (mMark_rg hz h0 h1).2⟩ ⟨by first | omega | exact (hz _ _ (by omega)).1 | exact (hz _ _ (by omega)).2 | exact (mMark_rg hz h0 h1).1 | exact (mMark_rg hz h0 h1).2, by first | omega | exact (hz _ _ (by omega)).1 | exact (hz _ _ (by omega)).2 | exact (mMark_rg hz h0 h1).1 | exact (mMark_rg hz h0 h1).2⟩ (fun c_60 => ?_) (fun c_60 => absurd c_60 (by omega))
      refine lv_bipush (v := iI (-6)) hx hb dX4_told_72 (by decide) ?_
      refine lv_goto (tgt := 78) hx hb dX4_told_74 (by decide) ?_
      exact z_iret hx hb hr hlocks hK hS () (by unfold mTold; (first | rw [told_a c_7 c_16] | rw [told_b c_7 c_16] | rw [told_c c_7 (by omega)] | rw [told_d c_7 (by omega)]); (first | exact (noHole_a rfl).symm | exact (noHole_a (by omega)).symm | exact (noHole_b (by assumption)).symm | exact (noHole_c (by omega) (by assumption)).symm)) hP hD dX4_told_78
    · refine lv_iload_n hx hb dX4_told_44 rfl (lv_at hl 3 rfl) ?_
      refine z_ineg hx hb dX4_told_45 ?_
      refine lv_aload_n hx hb dX4_told_46 rfl (lv_at hl 1 rfl) ?_
      refine lv_iload_n hx hb dX4_told_47 rfl (lv_at hl 2 rfl) ?_
      refine z_callV0 (ci := 4) (qk := 0) (As := [.int (iI g)]) (rest := [.int (iI (-n))]) hx hb hml hown hts hK hA hl.1 hP hD hS (c_X4_many l E q z pa sl sv sp pd od pm ty om st wr g  (by first | omega | exact hz _ _ (by omega) | exact hz | exact ⟨by omega, by omega⟩ | exact mMark_rg hz h0 h1)) gX4_told_X4_many rfl ndX4_many ⟨Nat.le_of_ble_eq_true rfl, Nat.le_of_ble_eq_true rfl⟩ rfl rfl rfl rfl rfl (Nat.le_of_ble_eq_true rfl) dX4_told_48 ⟨Nat.le_of_ble_eq_true rfl, Nat.le_of_ble_eq_true rfl⟩ (fun x u H locs hpost hP hD hS => ?_)
      subst hpost
      have hP : va_P E.1 vwCl (wM E q z pa sl sv sp pd od pm ty om st wr) H := hP
      have hD : va_D A (wM E q z pa sl sv sp pd od pm ty om st wr) := hD
      refine z_icmp_ge (tgt := 57) hx hb dX4_told_51 (by decide) ⟨by first | omega | exact (hz _ _ (by omega)).1 | exact (hz _ _ (by omega)).2 | exact (mMark_rg hz h0 h1).1 | exact (mMark_rg hz h0 h1).2, by first | omega | exact (hz _ _ (by omega)).1 | exact (hz _ _ (by omega)).2 | exact (mMark_rg hz h0 h1).1 | exact (mMark_rg hz h0 h1).2⟩ ⟨by first | omega | exact (hz _ _ (by omega)).1 | exact (hz _ _ (by omega)).2 | exact (mMark_rg hz h0 h1).1 | exact (mMark_rg hz h0 h1).2, by first | omega | exact (hz _ _ (by omega)).1 | exact (hz _ _ (by omega)).2 | exact (mMark_rg hz h0 h1).1 | exact (mMark_rg hz h0 h1).2⟩ (fun c_51 => ?_) (fun c_51 => ?_)
      · refine lv_iload_n hx hb dX4_told_57 rfl (lv_at hl 0 rfl) ?_
        refine lv_bipush (v := iI (-6)) hx hb dX4_told_58 (by decide) ?_
        refine z_icmp_eq (tgt := 72) hx hb dX4_told_60 (by decide) ⟨by first | omega | exact (hz _ _ (by omega)).1 | exact (hz _ _ (by omega)).2 | exact (mMark_rg hz h0 h1).1 | exact (mMark_rg hz h0 h1).2, by first | omega | exact (hz _ _ (by omega)).1 | exact (hz _ _ (by omega)).2 | exact (mMark_rg hz h0 h1).1 | exact (mMark_rg hz h0 h1).2⟩ ⟨by first | omega | exact (hz _ _ (by omega)).1 | exact (hz _ _ (by omega)).2 | exact (mMark_rg hz h0 h1).1 | exact (mMark_rg hz h0 h1).2, by first | omega | exact (hz _ _ (by omega)).1 | exact (hz _ _ (by omega)).2 | exact (mMark_rg hz h0 h1).1 | exact (mMark_rg hz h0 h1).2⟩ (fun c_60 => ?_) (fun c_60 => absurd c_60 (by omega))
        refine lv_bipush (v := iI (-6)) hx hb dX4_told_72 (by decide) ?_
        refine lv_goto (tgt := 78) hx hb dX4_told_74 (by decide) ?_
        exact z_iret hx hb hr hlocks hK hS () (by unfold mTold; (first | rw [told_a c_7 c_16] | rw [told_b c_7 c_16] | rw [told_c c_7 (by omega)] | rw [told_d c_7 (by omega)]); (first | exact (noHole_a rfl).symm | exact (noHole_a (by omega)).symm | exact (noHole_b (by assumption)).symm | exact (noHole_c (by omega) (by assumption)).symm)) hP hD dX4_told_78
      · refine lv_iload_n hx hb dX4_told_54 rfl (lv_at hl 3 rfl) ?_
        refine z_ineg hx hb dX4_told_55 ?_
        refine lv_istore_n (lv' := [(3, .int (iI (-n))), (0, .ref (q 0)), (1, .int (iI g)), (2, .int (iI n))]) hx hb dX4_told_56 rfl hl (by decide) rfl (fun ls hl => ?_)
        refine lv_iload_n hx hb dX4_told_57 rfl (lv_at hl 0 rfl) ?_
        refine lv_bipush (v := iI (-6)) hx hb dX4_told_58 (by decide) ?_
        refine z_icmp_eq (tgt := 72) hx hb dX4_told_60 (by decide) ⟨by first | omega | exact (hz _ _ (by omega)).1 | exact (hz _ _ (by omega)).2 | exact (mMark_rg hz h0 h1).1 | exact (mMark_rg hz h0 h1).2, by first | omega | exact (hz _ _ (by omega)).1 | exact (hz _ _ (by omega)).2 | exact (mMark_rg hz h0 h1).1 | exact (mMark_rg hz h0 h1).2⟩ ⟨by first | omega | exact (hz _ _ (by omega)).1 | exact (hz _ _ (by omega)).2 | exact (mMark_rg hz h0 h1).1 | exact (mMark_rg hz h0 h1).2, by first | omega | exact (hz _ _ (by omega)).1 | exact (hz _ _ (by omega)).2 | exact (mMark_rg hz h0 h1).1 | exact (mMark_rg hz h0 h1).2⟩ (fun c_60 => ?_) (fun c_60 => ?_)
        · refine lv_bipush (v := iI (-6)) hx hb dX4_told_72 (by decide) ?_
          refine lv_goto (tgt := 78) hx hb dX4_told_74 (by decide) ?_
          exact z_iret hx hb hr hlocks hK hS () (by unfold mTold; (first | rw [told_a c_7 c_16] | rw [told_b c_7 c_16] | rw [told_c c_7 (by omega)] | rw [told_d c_7 (by omega)]); (first | exact (noHole_a rfl).symm | exact (noHole_a (by omega)).symm | exact (noHole_b (by assumption)).symm | exact (noHole_c (by omega) (by assumption)).symm)) hP hD dX4_told_78
        · refine lv_aload_n hx hb dX4_told_63 rfl (lv_at hl 1 rfl) ?_
          refine lv_iload_n hx hb dX4_told_64 rfl (lv_at hl 2 rfl) ?_
          refine lv_iload_n hx hb dX4_told_65 rfl (lv_at hl 0 rfl) ?_
          refine z_callV0 (ci := 4) (qk := 0) (As := [.int (iI g), .int (iI (-n))]) (rest := []) hx hb hml hown hts hK hA hl.1 hP hD hS (c_X4_isHole l E q z pa sl sv sp pd od pm ty om st wr g (-n)  (by first | omega | exact hz _ _ (by omega) | exact hz | exact ⟨by omega, by omega⟩ | exact mMark_rg hz h0 h1) (by first | omega | exact hz _ _ (by omega) | exact hz | exact ⟨by omega, by omega⟩ | exact mMark_rg hz h0 h1) (by first | omega | exact hz _ _ (by omega) | exact hz | exact ⟨by omega, by omega⟩ | exact mMark_rg hz h0 h1)) gX4_told_X4_isHole rfl ndX4_isHole ⟨Nat.le_of_ble_eq_true rfl, Nat.le_of_ble_eq_true rfl⟩ rfl rfl rfl rfl rfl (Nat.le_of_ble_eq_true rfl) dX4_told_66 ⟨Nat.le_of_ble_eq_true rfl, Nat.le_of_ble_eq_true rfl⟩ (fun x u H locs hpost hP hD hS => ?_)
          subst hpost
          have hP : va_P E.1 vwCl (wM E q z pa sl sv sp pd od pm ty om st wr) H := hP
          have hD : va_D A (wM E q z pa sl sv sp pd od pm ty om st wr) := hD
          refine z_ifb_eq (tgt := 77) hx hb dX4_told_69 (by decide) (fun c_69 => ?_) (fun c_69 => ?_)
          · refine lv_iload_n hx hb dX4_told_77 rfl (lv_at hl 0 rfl) ?_
            exact z_iret hx hb hr hlocks hK hS () (by unfold mTold; (first | rw [told_a c_7 c_16] | rw [told_b c_7 c_16] | rw [told_c c_7 (by omega)] | rw [told_d c_7 (by omega)]); (first | exact (noHole_a rfl).symm | exact (noHole_a (by omega)).symm | exact (noHole_b (by assumption)).symm | exact (noHole_c (by omega) (by assumption)).symm)) hP hD dX4_told_78
          · refine lv_bipush (v := iI (-6)) hx hb dX4_told_72 (by decide) ?_
            refine lv_goto (tgt := 78) hx hb dX4_told_74 (by decide) ?_
            exact z_iret hx hb hr hlocks hK hS () (by unfold mTold; (first | rw [told_a c_7 c_16] | rw [told_b c_7 c_16] | rw [told_c c_7 (by omega)] | rw [told_d c_7 (by omega)]); (first | exact (noHole_a rfl).symm | exact (noHole_a (by omega)).symm | exact (noHole_b (by assumption)).symm | exact (noHole_c (by omega) (by assumption)).symm)) hP hD dX4_told_78
  · refine lv_aload_n hx hb dX4_told_10 rfl (lv_at hl 1 rfl) ?_
    refine lv_iload_n hx hb dX4_told_11 rfl (lv_at hl 2 rfl) ?_
    refine lv_iload_n hx hb dX4_told_12 rfl (lv_at hl 3 rfl) ?_
    refine z_callV0 (ci := 4) (qk := 0) (As := [.int (iI g), .int (iI n)]) (rest := []) hx hb hml hown hts hK hA hl.1 hP hD hS (c_X4_markOf l E q z pa sl sv sp pd od pm ty om st wr g n  (by first | omega | exact hz _ _ (by omega) | exact hz | exact ⟨by omega, by omega⟩ | exact mMark_rg hz h0 h1) (by first | omega | exact hz _ _ (by omega) | exact hz | exact ⟨by omega, by omega⟩ | exact mMark_rg hz h0 h1)) gX4_told_X4_markOf rfl ndX4_markOf ⟨Nat.le_of_ble_eq_true rfl, Nat.le_of_ble_eq_true rfl⟩ rfl rfl rfl rfl rfl (Nat.le_of_ble_eq_true rfl) dX4_told_13 ⟨Nat.le_of_ble_eq_true rfl, Nat.le_of_ble_eq_true rfl⟩ (fun x u H locs hpost hP hD hS => ?_)
    subst hpost
    have hP : va_P E.1 vwCl (wM E q z pa sl sv sp pd od pm ty om st wr) H := hP
    have hD : va_D A (wM E q z pa sl sv sp pd od pm ty om st wr) := hD
    refine z_if_ne (tgt := 24) hx hb dX4_told_16 (by decide) ⟨by first | omega | exact (hz _ _ (by omega)).1 | exact (hz _ _ (by omega)).2 | exact (mMark_rg hz h0 h1).1 | exact (mMark_rg hz h0 h1).2, by first | omega | exact (hz _ _ (by omega)).1 | exact (hz _ _ (by omega)).2 | exact (mMark_rg hz h0 h1).1 | exact (mMark_rg hz h0 h1).2⟩ (fun c_16 => ?_) (fun c_16 => ?_)
    · refine lv_aload_n hx hb dX4_told_24 rfl (lv_at hl 1 rfl) ?_
      refine lv_iload_n hx hb dX4_told_25 rfl (lv_at hl 2 rfl) ?_
      refine lv_aload_n hx hb dX4_told_26 rfl (lv_at hl 1 rfl) ?_
      refine lv_iload_n hx hb dX4_told_27 rfl (lv_at hl 2 rfl) ?_
      refine lv_iload_n hx hb dX4_told_28 rfl (lv_at hl 3 rfl) ?_
      refine z_callV0 (ci := 4) (qk := 0) (As := [.int (iI g), .int (iI n)]) (rest := [.int (iI g), .ref (q 0)]) hx hb hml hown hts hK hA hl.1 hP hD hS (c_X4_markOf l E q z pa sl sv sp pd od pm ty om st wr g n  (by first | omega | exact hz _ _ (by omega) | exact hz | exact ⟨by omega, by omega⟩ | exact mMark_rg hz h0 h1) (by first | omega | exact hz _ _ (by omega) | exact hz | exact ⟨by omega, by omega⟩ | exact mMark_rg hz h0 h1)) gX4_told_X4_markOf rfl ndX4_markOf ⟨Nat.le_of_ble_eq_true rfl, Nat.le_of_ble_eq_true rfl⟩ rfl rfl rfl rfl rfl (Nat.le_of_ble_eq_true rfl) dX4_told_29 ⟨Nat.le_of_ble_eq_true rfl, Nat.le_of_ble_eq_true rfl⟩ (fun x u H locs hpost hP hD hS => ?_)
      subst hpost
      have hP : va_P E.1 vwCl (wM E q z pa sl sv sp pd od pm ty om st wr) H := hP
      have hD : va_D A (wM E q z pa sl sv sp pd od pm ty om st wr) := hD
      refine z_callV0 (ci := 4) (qk := 0) (As := [.int (iI g), .int (iI (mMark z g n))]) (rest := []) hx hb hml hown hts hK hA hl.1 hP hD hS (c_X4_placeOf l E q z pa sl sv sp pd od pm ty om st wr g (mMark z g n)  (by first | omega | exact hz _ _ (by omega) | exact hz | exact ⟨by omega, by omega⟩ | exact mMark_rg hz h0 h1) (by first | omega | exact hz _ _ (by omega) | exact hz | exact ⟨by omega, by omega⟩ | exact mMark_rg hz h0 h1) (by first | omega | exact hz _ _ (by omega) | exact hz | exact ⟨by omega, by omega⟩ | exact mMark_rg hz h0 h1) (by first | omega | exact hz _ _ (by omega) | exact hz | exact ⟨by omega, by omega⟩ | exact mMark_rg hz h0 h1)) gX4_told_X4_placeOf rfl ndX4_placeOf ⟨Nat.le_of_ble_eq_true rfl, Nat.le_of_ble_eq_true rfl⟩ rfl rfl rfl rfl rfl (Nat.le_of_ble_eq_true rfl) dX4_told_32 ⟨Nat.le_of_ble_eq_true rfl, Nat.le_of_ble_eq_true rfl⟩ (fun x u H locs hpost hP hD hS => ?_)
      subst hpost
      have hP : va_P E.1 vwCl (wM E q z pa sl sv sp pd od pm ty om st wr) H := hP
      have hD : va_D A (wM E q z pa sl sv sp pd od pm ty om st wr) := hD
      refine lv_istore_n (lv' := [(3, .int (iI (mPlace z g (mMark z g n)))), (0, .ref (q 0)), (1, .int (iI g)), (2, .int (iI n))]) hx hb dX4_told_35 rfl hl (by decide) rfl (fun ls hl => ?_)
      refine lv_goto (tgt := 57) hx hb dX4_told_36 (by decide) ?_
      refine lv_iload_n hx hb dX4_told_57 rfl (lv_at hl 0 rfl) ?_
      refine lv_bipush (v := iI (-6)) hx hb dX4_told_58 (by decide) ?_
      refine z_icmp_eq (tgt := 72) hx hb dX4_told_60 (by decide) ⟨by first | omega | exact (hz _ _ (by omega)).1 | exact (hz _ _ (by omega)).2 | exact (mMark_rg hz h0 h1).1 | exact (mMark_rg hz h0 h1).2, by first | omega | exact (hz _ _ (by omega)).1 | exact (hz _ _ (by omega)).2 | exact (mMark_rg hz h0 h1).1 | exact (mMark_rg hz h0 h1).2⟩ ⟨by first | omega | exact (hz _ _ (by omega)).1 | exact (hz _ _ (by omega)).2 | exact (mMark_rg hz h0 h1).1 | exact (mMark_rg hz h0 h1).2, by first | omega | exact (hz _ _ (by omega)).1 | exact (hz _ _ (by omega)).2 | exact (mMark_rg hz h0 h1).1 | exact (mMark_rg hz h0 h1).2⟩ (fun c_60 => ?_) (fun c_60 => ?_)
      · refine lv_bipush (v := iI (-6)) hx hb dX4_told_72 (by decide) ?_
        refine lv_goto (tgt := 78) hx hb dX4_told_74 (by decide) ?_
        exact z_iret hx hb hr hlocks hK hS () (by unfold mTold; (first | rw [told_a c_7 c_16] | rw [told_b c_7 c_16] | rw [told_c c_7 (by omega)] | rw [told_d c_7 (by omega)]); (first | exact (noHole_a rfl).symm | exact (noHole_a (by omega)).symm | exact (noHole_b (by assumption)).symm | exact (noHole_c (by omega) (by assumption)).symm)) hP hD dX4_told_78
      · refine lv_aload_n hx hb dX4_told_63 rfl (lv_at hl 1 rfl) ?_
        refine lv_iload_n hx hb dX4_told_64 rfl (lv_at hl 2 rfl) ?_
        refine lv_iload_n hx hb dX4_told_65 rfl (lv_at hl 0 rfl) ?_
        refine z_callV0 (ci := 4) (qk := 0) (As := [.int (iI g), .int (iI (mPlace z g (mMark z g n)))]) (rest := []) hx hb hml hown hts hK hA hl.1 hP hD hS (c_X4_isHole l E q z pa sl sv sp pd od pm ty om st wr g (mPlace z g (mMark z g n))  (by first | omega | exact hz _ _ (by omega) | exact hz | exact ⟨by omega, by omega⟩ | exact mMark_rg hz h0 h1) (by first | omega | exact hz _ _ (by omega) | exact hz | exact ⟨by omega, by omega⟩ | exact mMark_rg hz h0 h1) (by first | omega | exact hz _ _ (by omega) | exact hz | exact ⟨by omega, by omega⟩ | exact mMark_rg hz h0 h1)) gX4_told_X4_isHole rfl ndX4_isHole ⟨Nat.le_of_ble_eq_true rfl, Nat.le_of_ble_eq_true rfl⟩ rfl rfl rfl rfl rfl (Nat.le_of_ble_eq_true rfl) dX4_told_66 ⟨Nat.le_of_ble_eq_true rfl, Nat.le_of_ble_eq_true rfl⟩ (fun x u H locs hpost hP hD hS => ?_)
        subst hpost
        have hP : va_P E.1 vwCl (wM E q z pa sl sv sp pd od pm ty om st wr) H := hP
        have hD : va_D A (wM E q z pa sl sv sp pd od pm ty om st wr) := hD
        refine z_ifb_eq (tgt := 77) hx hb dX4_told_69 (by decide) (fun c_69 => ?_) (fun c_69 => ?_)
        · refine lv_iload_n hx hb dX4_told_77 rfl (lv_at hl 0 rfl) ?_
          exact z_iret hx hb hr hlocks hK hS () (by unfold mTold; (first | rw [told_a c_7 c_16] | rw [told_b c_7 c_16] | rw [told_c c_7 (by omega)] | rw [told_d c_7 (by omega)]); (first | exact (noHole_a rfl).symm | exact (noHole_a (by omega)).symm | exact (noHole_b (by assumption)).symm | exact (noHole_c (by omega) (by assumption)).symm)) hP hD dX4_told_78
        · refine lv_bipush (v := iI (-6)) hx hb dX4_told_72 (by decide) ?_
          refine lv_goto (tgt := 78) hx hb dX4_told_74 (by decide) ?_
          exact z_iret hx hb hr hlocks hK hS () (by unfold mTold; (first | rw [told_a c_7 c_16] | rw [told_b c_7 c_16] | rw [told_c c_7 (by omega)] | rw [told_d c_7 (by omega)]); (first | exact (noHole_a rfl).symm | exact (noHole_a (by omega)).symm | exact (noHole_b (by assumption)).symm | exact (noHole_c (by omega) (by assumption)).symm)) hP hD dX4_told_78
    · refine lv_bipush (v := iI (-6)) hx hb dX4_told_19 (by decide) ?_
      refine lv_goto (tgt := 35) hx hb dX4_told_21 (by decide) ?_
      refine lv_istore_n (lv' := [(3, .int (iI (-6))), (0, .ref (q 0)), (1, .int (iI g)), (2, .int (iI n))]) hx hb dX4_told_35 rfl hl (by decide) rfl (fun ls hl => ?_)
      refine lv_goto (tgt := 57) hx hb dX4_told_36 (by decide) ?_
      refine lv_iload_n hx hb dX4_told_57 rfl (lv_at hl 0 rfl) ?_
      refine lv_bipush (v := iI (-6)) hx hb dX4_told_58 (by decide) ?_
      refine z_icmp_eq (tgt := 72) hx hb dX4_told_60 (by decide) ⟨by first | omega | exact (hz _ _ (by omega)).1 | exact (hz _ _ (by omega)).2 | exact (mMark_rg hz h0 h1).1 | exact (mMark_rg hz h0 h1).2, by first | omega | exact (hz _ _ (by omega)).1 | exact (hz _ _ (by omega)).2 | exact (mMark_rg hz h0 h1).1 | exact (mMark_rg hz h0 h1).2⟩ ⟨by first | omega | exact (hz _ _ (by omega)).1 | exact (hz _ _ (by omega)).2 | exact (mMark_rg hz h0 h1).1 | exact (mMark_rg hz h0 h1).2, by first | omega | exact (hz _ _ (by omega)).1 | exact (hz _ _ (by omega)).2 | exact (mMark_rg hz h0 h1).1 | exact (mMark_rg hz h0 h1).2⟩ (fun c_60 => ?_) (fun c_60 => absurd c_60 (by omega))
      refine lv_bipush (v := iI (-6)) hx hb dX4_told_72 (by decide) ?_
      refine lv_goto (tgt := 78) hx hb dX4_told_74 (by decide) ?_
      exact z_iret hx hb hr hlocks hK hS () (by unfold mTold; (first | rw [told_a c_7 c_16] | rw [told_b c_7 c_16] | rw [told_c c_7 (by omega)] | rw [told_d c_7 (by omega)]); (first | exact (noHole_a rfl).symm | exact (noHole_a (by omega)).symm | exact (noHole_b (by assumption)).symm | exact (noHole_c (by omega) (by assumption)).symm)) hP hD dX4_told_78

theorem ndX4_madePlace : yX4_madePlace.cls = RX4 ∧ yX4_madePlace.cls ≠ "java/lang/invoke/MethodHandle" ∧ yX4_madePlace.cls ≠ "java/lang/invoke/VarHandle" ∧ (parseMethodDescriptor yX4_madePlace.desc).map (fun d => d.parameters.length) = some 1 := by decide +kernel
set_option maxRecDepth 100000 in
set_option maxHeartbeats 4000000 in
theorem c_X4_madePlace (l : Launch) (E : zE) (q : Nat → Nat) (z pa sl sv sp pd od : Int → Int) (pm ty om st wr : Int) (g : Int) (h0 : 0 ≤ g ∧ g ≤ 5) (h1 : 0 ≤ zg z g 1 ∧ zg z g 1 ≤ 8) (h2 : CZ z) (h3 : rg (z 1)) : zF l E yX4_madePlace wsX4_madePlace 3 69 [.ref (q 0), .int (iI g)] (wM E q z pa sl sv sp pd od pm ty om st wr) (mMade z g) (wM E q z pa sl sv sp pd od pm ty om st wr) := by
  have hz := h2
  have hp := mPlace_rg (z := z) (g := g) (m := zg z g 5) h1.1
  refine zC_of (cc := cX4_madePlace) (maxL := 3) (by decide) rfl (Nat.le_of_ble_eq_true rfl) ?_
  intro p e s m below meth c ls A hx hb hr hts hown hlocks hml hK hA hS hP hD hl
  have hown : s.vm.findClass RX4 = some m.cls := hown
  have hl : lv_has ls 3 [(0, .ref (q 0)), (1, .int (iI g))] := hl
  refine lv_aload_n hx hb dX4_madePlace_0 rfl (lv_at hl 0 rfl) ?_
  refine lv_iload_n hx hb dX4_madePlace_1 rfl (lv_at hl 1 rfl) ?_
  refine lv_iconst (v := iI 5) hx hb dX4_madePlace_2 (by decide) ?_
  refine z_callV0 (ci := 4) (qk := 0) (As := [.int (iI g), .int (iI 5)]) (rest := []) hx hb hml hown hts hK hA hl.1 hP hD hS (c_X4_of l E q z pa sl sv sp pd od pm ty om st wr g 5  (by first | omega | exact hz _ _ (by omega) | exact hz | exact ⟨by omega, by omega⟩) (by first | omega | exact hz _ _ (by omega) | exact hz | exact ⟨by omega, by omega⟩)) gX4_madePlace_X4_of rfl ndX4_of ⟨Nat.le_of_ble_eq_true rfl, Nat.le_of_ble_eq_true rfl⟩ rfl rfl rfl rfl rfl (Nat.le_of_ble_eq_true rfl) dX4_madePlace_3 ⟨Nat.le_of_ble_eq_true rfl, Nat.le_of_ble_eq_true rfl⟩ (fun x u H locs hpost hP hD hS => ?_)
  subst hpost
  have hP : va_P E.1 vwCl (wM E q z pa sl sv sp pd od pm ty om st wr) H := hP
  have hD : va_D A (wM E q z pa sl sv sp pd od pm ty om st wr) := hD
  refine z_if_eq (tgt := 16) hx hb dX4_madePlace_6 (by decide) ⟨by first | omega | exact (hz _ _ (by omega)).1 | exact (hz _ _ (by omega)).2, by first | omega | exact (hz _ _ (by omega)).1 | exact (hz _ _ (by omega)).2⟩ (fun c_6 => ?_) (fun c_6 => ?_)
  · refine lv_bipush (v := iI (-6)) hx hb dX4_madePlace_16 (by decide) ?_
    refine lv_goto (tgt := 32) hx hb dX4_madePlace_18 (by decide) ?_
    refine lv_istore_n (lv' := [(2, .int (iI (-6))), (0, .ref (q 0)), (1, .int (iI g))]) hx hb dX4_madePlace_32 rfl hl (by decide) rfl (fun ls hl => ?_)
    refine lv_iload_n hx hb dX4_madePlace_33 rfl (lv_at hl 0 rfl) ?_
    refine lv_bipush (v := iI (-6)) hx hb dX4_madePlace_34 (by decide) ?_
    refine z_icmp_eq (tgt := 48) hx hb dX4_madePlace_36 (by decide) ⟨by first | omega | exact (hz _ _ (by omega)).1 | exact (hz _ _ (by omega)).2, by first | omega | exact (hz _ _ (by omega)).1 | exact (hz _ _ (by omega)).2⟩ ⟨by first | omega | exact (hz _ _ (by omega)).1 | exact (hz _ _ (by omega)).2, by first | omega | exact (hz _ _ (by omega)).1 | exact (hz _ _ (by omega)).2⟩ (fun c_36 => ?_) (fun c_36 => absurd c_36 (by omega))
    refine lv_bipush (v := iI (-6)) hx hb dX4_madePlace_48 (by decide) ?_
    refine lv_goto (tgt := 54) hx hb dX4_madePlace_50 (by decide) ?_
    exact z_iret hx hb hr hlocks hK hS () (by unfold mMade; (first | rw [made_a c_6] | rw [made_b c_13] | rw [made_c c_6 c_13]); (first | exact (noHole_a rfl).symm | exact (noHole_a (by omega)).symm | exact (noHole_b (by assumption)).symm | exact (noHole_c (by omega) (by assumption)).symm)) hP hD dX4_madePlace_54
  · refine lv_aload_n hx hb dX4_madePlace_9 rfl (lv_at hl 0 rfl) ?_
    refine z_callV0 (ci := 4) (qk := 0) (As := []) (rest := []) hx hb hml hown hts hK hA hl.1 hP hD hS (c_X4_runs l E q z pa sl sv sp pd od pm ty om st wr   (by first | omega | exact hz _ _ (by omega) | exact hz | exact ⟨by omega, by omega⟩)) gX4_madePlace_X4_runs rfl ndX4_runs ⟨Nat.le_of_ble_eq_true rfl, Nat.le_of_ble_eq_true rfl⟩ rfl rfl rfl rfl rfl (Nat.le_of_ble_eq_true rfl) dX4_madePlace_10 ⟨Nat.le_of_ble_eq_true rfl, Nat.le_of_ble_eq_true rfl⟩ (fun x u H locs hpost hP hD hS => ?_)
    subst hpost
    have hP : va_P E.1 vwCl (wM E q z pa sl sv sp pd od pm ty om st wr) H := hP
    have hD : va_D A (wM E q z pa sl sv sp pd od pm ty om st wr) := hD
    refine z_ifb_ne (tgt := 21) hx hb dX4_madePlace_13 (by decide) (fun c_13 => ?_) (fun c_13 => ?_)
    · refine lv_aload_n hx hb dX4_madePlace_21 rfl (lv_at hl 0 rfl) ?_
      refine lv_iload_n hx hb dX4_madePlace_22 rfl (lv_at hl 1 rfl) ?_
      refine lv_aload_n hx hb dX4_madePlace_23 rfl (lv_at hl 0 rfl) ?_
      refine lv_iload_n hx hb dX4_madePlace_24 rfl (lv_at hl 1 rfl) ?_
      refine lv_iconst (v := iI 5) hx hb dX4_madePlace_25 (by decide) ?_
      refine z_callV0 (ci := 4) (qk := 0) (As := [.int (iI g), .int (iI 5)]) (rest := [.int (iI g), .ref (q 0)]) hx hb hml hown hts hK hA hl.1 hP hD hS (c_X4_of l E q z pa sl sv sp pd od pm ty om st wr g 5  (by first | omega | exact hz _ _ (by omega) | exact hz | exact ⟨by omega, by omega⟩) (by first | omega | exact hz _ _ (by omega) | exact hz | exact ⟨by omega, by omega⟩)) gX4_madePlace_X4_of rfl ndX4_of ⟨Nat.le_of_ble_eq_true rfl, Nat.le_of_ble_eq_true rfl⟩ rfl rfl rfl rfl rfl (Nat.le_of_ble_eq_true rfl) dX4_madePlace_26 ⟨Nat.le_of_ble_eq_true rfl, Nat.le_of_ble_eq_true rfl⟩ (fun x u H locs hpost hP hD hS => ?_)
      subst hpost
      have hP : va_P E.1 vwCl (wM E q z pa sl sv sp pd od pm ty om st wr) H := hP
      have hD : va_D A (wM E q z pa sl sv sp pd od pm ty om st wr) := hD
      refine z_callV0 (ci := 4) (qk := 0) (As := [.int (iI g), .int (iI (zg z g 5))]) (rest := []) hx hb hml hown hts hK hA hl.1 hP hD hS (c_X4_placeOf l E q z pa sl sv sp pd od pm ty om st wr g (zg z g 5)  (by first | omega | exact hz _ _ (by omega) | exact hz | exact ⟨by omega, by omega⟩) (by first | omega | exact hz _ _ (by omega) | exact hz | exact ⟨by omega, by omega⟩) (by first | omega | exact hz _ _ (by omega) | exact hz | exact ⟨by omega, by omega⟩) (by first | omega | exact hz _ _ (by omega) | exact hz | exact ⟨by omega, by omega⟩)) gX4_madePlace_X4_placeOf rfl ndX4_placeOf ⟨Nat.le_of_ble_eq_true rfl, Nat.le_of_ble_eq_true rfl⟩ rfl rfl rfl rfl rfl (Nat.le_of_ble_eq_true rfl) dX4_madePlace_29 ⟨Nat.le_of_ble_eq_true rfl, Nat.le_of_ble_eq_true rfl⟩ (fun x u H locs hpost hP hD hS => ?_)
      subst hpost
      have hP : va_P E.1 vwCl (wM E q z pa sl sv sp pd od pm ty om st wr) H := hP
      have hD : va_D A (wM E q z pa sl sv sp pd od pm ty om st wr) := hD
      refine lv_istore_n (lv' := [(2, .int (iI (mPlace z g (zg z g 5)))), (0, .ref (q 0)), (1, .int (iI g))]) hx hb dX4_madePlace_32 rfl hl (by decide) rfl (fun ls hl => ?_)
      refine lv_iload_n hx hb dX4_madePlace_33 rfl (lv_at hl 0 rfl) ?_
      refine lv_bipush (v := iI (-6)) hx hb dX4_madePlace_34 (by decide) ?_
      refine z_icmp_eq (tgt := 48) hx hb dX4_madePlace_36 (by decide) ⟨by first | omega | exact (hz _ _ (by omega)).1 | exact (hz _ _ (by omega)).2, by first | omega | exact (hz _ _ (by omega)).1 | exact (hz _ _ (by omega)).2⟩ ⟨by first | omega | exact (hz _ _ (by omega)).1 | exact (hz _ _ (by omega)).2, by first | omega | exact (hz _ _ (by omega)).1 | exact (hz _ _ (by omega)).2⟩ (fun c_36 => ?_) (fun c_36 => ?_)
      · refine lv_bipush (v := iI (-6)) hx hb dX4_madePlace_48 (by decide) ?_
        refine lv_goto (tgt := 54) hx hb dX4_madePlace_50 (by decide) ?_
        exact z_iret hx hb hr hlocks hK hS () (by unfold mMade; (first | rw [made_a c_6] | rw [made_b c_13] | rw [made_c c_6 c_13]); (first | exact (noHole_a rfl).symm | exact (noHole_a (by omega)).symm | exact (noHole_b (by assumption)).symm | exact (noHole_c (by omega) (by assumption)).symm)) hP hD dX4_madePlace_54
      · refine lv_aload_n hx hb dX4_madePlace_39 rfl (lv_at hl 1 rfl) ?_
        refine lv_iload_n hx hb dX4_madePlace_40 rfl (lv_at hl 2 rfl) ?_
        refine lv_iload_n hx hb dX4_madePlace_41 rfl (lv_at hl 0 rfl) ?_
        refine z_callV0 (ci := 4) (qk := 0) (As := [.int (iI g), .int (iI (mPlace z g (zg z g 5)))]) (rest := []) hx hb hml hown hts hK hA hl.1 hP hD hS (c_X4_isHole l E q z pa sl sv sp pd od pm ty om st wr g (mPlace z g (zg z g 5))  (by first | omega | exact hz _ _ (by omega) | exact hz | exact ⟨by omega, by omega⟩) (by first | omega | exact hz _ _ (by omega) | exact hz | exact ⟨by omega, by omega⟩) (by first | omega | exact hz _ _ (by omega) | exact hz | exact ⟨by omega, by omega⟩)) gX4_madePlace_X4_isHole rfl ndX4_isHole ⟨Nat.le_of_ble_eq_true rfl, Nat.le_of_ble_eq_true rfl⟩ rfl rfl rfl rfl rfl (Nat.le_of_ble_eq_true rfl) dX4_madePlace_42 ⟨Nat.le_of_ble_eq_true rfl, Nat.le_of_ble_eq_true rfl⟩ (fun x u H locs hpost hP hD hS => ?_)
        subst hpost
        have hP : va_P E.1 vwCl (wM E q z pa sl sv sp pd od pm ty om st wr) H := hP
        have hD : va_D A (wM E q z pa sl sv sp pd od pm ty om st wr) := hD
        refine z_ifb_eq (tgt := 53) hx hb dX4_madePlace_45 (by decide) (fun c_45 => ?_) (fun c_45 => ?_)
        · refine lv_iload_n hx hb dX4_madePlace_53 rfl (lv_at hl 0 rfl) ?_
          exact z_iret hx hb hr hlocks hK hS () (by unfold mMade; (first | rw [made_a c_6] | rw [made_b c_13] | rw [made_c c_6 c_13]); (first | exact (noHole_a rfl).symm | exact (noHole_a (by omega)).symm | exact (noHole_b (by assumption)).symm | exact (noHole_c (by omega) (by assumption)).symm)) hP hD dX4_madePlace_54
        · refine lv_bipush (v := iI (-6)) hx hb dX4_madePlace_48 (by decide) ?_
          refine lv_goto (tgt := 54) hx hb dX4_madePlace_50 (by decide) ?_
          exact z_iret hx hb hr hlocks hK hS () (by unfold mMade; (first | rw [made_a c_6] | rw [made_b c_13] | rw [made_c c_6 c_13]); (first | exact (noHole_a rfl).symm | exact (noHole_a (by omega)).symm | exact (noHole_b (by assumption)).symm | exact (noHole_c (by omega) (by assumption)).symm)) hP hD dX4_madePlace_54
    · refine lv_bipush (v := iI (-6)) hx hb dX4_madePlace_16 (by decide) ?_
      refine lv_goto (tgt := 32) hx hb dX4_madePlace_18 (by decide) ?_
      refine lv_istore_n (lv' := [(2, .int (iI (-6))), (0, .ref (q 0)), (1, .int (iI g))]) hx hb dX4_madePlace_32 rfl hl (by decide) rfl (fun ls hl => ?_)
      refine lv_iload_n hx hb dX4_madePlace_33 rfl (lv_at hl 0 rfl) ?_
      refine lv_bipush (v := iI (-6)) hx hb dX4_madePlace_34 (by decide) ?_
      refine z_icmp_eq (tgt := 48) hx hb dX4_madePlace_36 (by decide) ⟨by first | omega | exact (hz _ _ (by omega)).1 | exact (hz _ _ (by omega)).2, by first | omega | exact (hz _ _ (by omega)).1 | exact (hz _ _ (by omega)).2⟩ ⟨by first | omega | exact (hz _ _ (by omega)).1 | exact (hz _ _ (by omega)).2, by first | omega | exact (hz _ _ (by omega)).1 | exact (hz _ _ (by omega)).2⟩ (fun c_36 => ?_) (fun c_36 => absurd c_36 (by omega))
      refine lv_bipush (v := iI (-6)) hx hb dX4_madePlace_48 (by decide) ?_
      refine lv_goto (tgt := 54) hx hb dX4_madePlace_50 (by decide) ?_
      exact z_iret hx hb hr hlocks hK hS () (by unfold mMade; (first | rw [made_a c_6] | rw [made_b c_13] | rw [made_c c_6 c_13]); (first | exact (noHole_a rfl).symm | exact (noHole_a (by omega)).symm | exact (noHole_b (by assumption)).symm | exact (noHole_c (by omega) (by assumption)).symm)) hP hD dX4_madePlace_54

theorem ndX4_isNewestMade : yX4_isNewestMade.cls = RX4 ∧ yX4_isNewestMade.cls ≠ "java/lang/invoke/MethodHandle" ∧ yX4_isNewestMade.cls ≠ "java/lang/invoke/VarHandle" ∧ (parseMethodDescriptor yX4_isNewestMade.desc).map (fun d => d.parameters.length) = some 1 := by decide +kernel
set_option maxRecDepth 100000 in
set_option maxHeartbeats 4000000 in
theorem c_X4_isNewestMade (l : Launch) (E : zE) (q : Nat → Nat) (z pa sl sv sp pd od : Int → Int) (pm ty om st wr : Int) (g : Int) (h0 : 0 ≤ g ∧ g ≤ 5) (h1 : 0 ≤ zg z g 1 ∧ zg z g 1 ≤ 8) (h2 : CZ z) (h3 : rg (z 1)) : zF l E yX4_isNewestMade wsX4_isNewestMade 3 69 [.ref (q 0), .int (iI g)] (wM E q z pa sl sv sp pd od pm ty om st wr) (zb (z 1 = 1 ∧ ¬ zg z g 5 = 0 ∧ mPlace z g (zg z g 5) = 0)) (wM E q z pa sl sv sp pd od pm ty om st wr) := by
  have hz := h2
  have hp := mPlace_rg (z := z) (g := g) (m := zg z g 5) h1.1
  refine zC_of (cc := cX4_isNewestMade) (maxL := 2) (by decide) rfl (Nat.le_of_ble_eq_true rfl) ?_
  intro p e s m below meth c ls A hx hb hr hts hown hlocks hml hK hA hS hP hD hl
  have hown : s.vm.findClass RX4 = some m.cls := hown
  have hl : lv_has ls 2 [(0, .ref (q 0)), (1, .int (iI g))] := hl
  refine lv_aload_n hx hb dX4_isNewestMade_0 rfl (lv_at hl 0 rfl) ?_
  refine z_callV0 (ci := 4) (qk := 0) (As := []) (rest := []) hx hb hml hown hts hK hA hl.1 hP hD hS (c_X4_runs l E q z pa sl sv sp pd od pm ty om st wr   (by first | omega | exact hz _ _ (by omega) | exact hz | exact ⟨by omega, by omega⟩)) gX4_isNewestMade_X4_runs rfl ndX4_runs ⟨Nat.le_of_ble_eq_true rfl, Nat.le_of_ble_eq_true rfl⟩ rfl rfl rfl rfl rfl (Nat.le_of_ble_eq_true rfl) dX4_isNewestMade_1 ⟨Nat.le_of_ble_eq_true rfl, Nat.le_of_ble_eq_true rfl⟩ (fun x u H locs hpost hP hD hS => ?_)
  subst hpost
  have hP : va_P E.1 vwCl (wM E q z pa sl sv sp pd od pm ty om st wr) H := hP
  have hD : va_D A (wM E q z pa sl sv sp pd od pm ty om st wr) := hD
  refine z_ifb_eq (tgt := 34) hx hb dX4_isNewestMade_4 (by decide) (fun c_4 => ?_) (fun c_4 => ?_)
  · refine lv_iconst (v := iI 0) hx hb dX4_isNewestMade_34 (by decide) ?_
    exact z_zret hx hb hr hlocks hK hS (Or.inl rfl) () (by first | rfl | trivial | exact zb_t' (by omega) | exact zb_f' (by omega) | omega) hP hD dX4_isNewestMade_35
  · refine lv_aload_n hx hb dX4_isNewestMade_7 rfl (lv_at hl 0 rfl) ?_
    refine lv_iload_n hx hb dX4_isNewestMade_8 rfl (lv_at hl 1 rfl) ?_
    refine lv_iconst (v := iI 5) hx hb dX4_isNewestMade_9 (by decide) ?_
    refine z_callV0 (ci := 4) (qk := 0) (As := [.int (iI g), .int (iI 5)]) (rest := []) hx hb hml hown hts hK hA hl.1 hP hD hS (c_X4_of l E q z pa sl sv sp pd od pm ty om st wr g 5  (by first | omega | exact hz _ _ (by omega) | exact hz | exact ⟨by omega, by omega⟩) (by first | omega | exact hz _ _ (by omega) | exact hz | exact ⟨by omega, by omega⟩)) gX4_isNewestMade_X4_of rfl ndX4_of ⟨Nat.le_of_ble_eq_true rfl, Nat.le_of_ble_eq_true rfl⟩ rfl rfl rfl rfl rfl (Nat.le_of_ble_eq_true rfl) dX4_isNewestMade_10 ⟨Nat.le_of_ble_eq_true rfl, Nat.le_of_ble_eq_true rfl⟩ (fun x u H locs hpost hP hD hS => ?_)
    subst hpost
    have hP : va_P E.1 vwCl (wM E q z pa sl sv sp pd od pm ty om st wr) H := hP
    have hD : va_D A (wM E q z pa sl sv sp pd od pm ty om st wr) := hD
    refine z_if_eq (tgt := 34) hx hb dX4_isNewestMade_13 (by decide) ⟨by first | omega | exact (hz _ _ (by omega)).1 | exact (hz _ _ (by omega)).2, by first | omega | exact (hz _ _ (by omega)).1 | exact (hz _ _ (by omega)).2⟩ (fun c_13 => ?_) (fun c_13 => ?_)
    · refine lv_iconst (v := iI 0) hx hb dX4_isNewestMade_34 (by decide) ?_
      exact z_zret hx hb hr hlocks hK hS (Or.inl rfl) () (by first | rfl | trivial | exact zb_t' (by omega) | exact zb_f' (by omega) | omega) hP hD dX4_isNewestMade_35
    · refine lv_aload_n hx hb dX4_isNewestMade_16 rfl (lv_at hl 0 rfl) ?_
      refine lv_iload_n hx hb dX4_isNewestMade_17 rfl (lv_at hl 1 rfl) ?_
      refine lv_aload_n hx hb dX4_isNewestMade_18 rfl (lv_at hl 0 rfl) ?_
      refine lv_iload_n hx hb dX4_isNewestMade_19 rfl (lv_at hl 1 rfl) ?_
      refine lv_iconst (v := iI 5) hx hb dX4_isNewestMade_20 (by decide) ?_
      refine z_callV0 (ci := 4) (qk := 0) (As := [.int (iI g), .int (iI 5)]) (rest := [.int (iI g), .ref (q 0)]) hx hb hml hown hts hK hA hl.1 hP hD hS (c_X4_of l E q z pa sl sv sp pd od pm ty om st wr g 5  (by first | omega | exact hz _ _ (by omega) | exact hz | exact ⟨by omega, by omega⟩) (by first | omega | exact hz _ _ (by omega) | exact hz | exact ⟨by omega, by omega⟩)) gX4_isNewestMade_X4_of rfl ndX4_of ⟨Nat.le_of_ble_eq_true rfl, Nat.le_of_ble_eq_true rfl⟩ rfl rfl rfl rfl rfl (Nat.le_of_ble_eq_true rfl) dX4_isNewestMade_21 ⟨Nat.le_of_ble_eq_true rfl, Nat.le_of_ble_eq_true rfl⟩ (fun x u H locs hpost hP hD hS => ?_)
      subst hpost
      have hP : va_P E.1 vwCl (wM E q z pa sl sv sp pd od pm ty om st wr) H := hP
      have hD : va_D A (wM E q z pa sl sv sp pd od pm ty om st wr) := hD
      refine z_callV0 (ci := 4) (qk := 0) (As := [.int (iI g), .int (iI (zg z g 5))]) (rest := []) hx hb hml hown hts hK hA hl.1 hP hD hS (c_X4_placeOf l E q z pa sl sv sp pd od pm ty om st wr g (zg z g 5)  (by first | omega | exact hz _ _ (by omega) | exact hz | exact ⟨by omega, by omega⟩) (by first | omega | exact hz _ _ (by omega) | exact hz | exact ⟨by omega, by omega⟩) (by first | omega | exact hz _ _ (by omega) | exact hz | exact ⟨by omega, by omega⟩) (by first | omega | exact hz _ _ (by omega) | exact hz | exact ⟨by omega, by omega⟩)) gX4_isNewestMade_X4_placeOf rfl ndX4_placeOf ⟨Nat.le_of_ble_eq_true rfl, Nat.le_of_ble_eq_true rfl⟩ rfl rfl rfl rfl rfl (Nat.le_of_ble_eq_true rfl) dX4_isNewestMade_24 ⟨Nat.le_of_ble_eq_true rfl, Nat.le_of_ble_eq_true rfl⟩ (fun x u H locs hpost hP hD hS => ?_)
      subst hpost
      have hP : va_P E.1 vwCl (wM E q z pa sl sv sp pd od pm ty om st wr) H := hP
      have hD : va_D A (wM E q z pa sl sv sp pd od pm ty om st wr) := hD
      refine z_if_ne (tgt := 34) hx hb dX4_isNewestMade_27 (by decide) ⟨by first | omega | exact (hz _ _ (by omega)).1 | exact (hz _ _ (by omega)).2, by first | omega | exact (hz _ _ (by omega)).1 | exact (hz _ _ (by omega)).2⟩ (fun c_27 => ?_) (fun c_27 => ?_)
      · refine lv_iconst (v := iI 0) hx hb dX4_isNewestMade_34 (by decide) ?_
        exact z_zret hx hb hr hlocks hK hS (Or.inl rfl) () (by first | rfl | trivial | exact zb_t' (by omega) | exact zb_f' (by omega) | omega) hP hD dX4_isNewestMade_35
      · refine lv_iconst (v := iI 1) hx hb dX4_isNewestMade_30 (by decide) ?_
        refine lv_goto (tgt := 35) hx hb dX4_isNewestMade_31 (by decide) ?_
        exact z_zret hx hb hr hlocks hK hS (Or.inr rfl) () (by first | rfl | trivial | exact zb_t' (by omega) | exact zb_f' (by omega) | omega) hP hD dX4_isNewestMade_35

theorem ndX4_madeMany : yX4_madeMany.cls = RX4 ∧ yX4_madeMany.cls ≠ "java/lang/invoke/MethodHandle" ∧ yX4_madeMany.cls ≠ "java/lang/invoke/VarHandle" ∧ (parseMethodDescriptor yX4_madeMany.desc).map (fun d => d.parameters.length) = some 0 := by decide +kernel
set_option maxRecDepth 100000 in
set_option maxHeartbeats 4000000 in
theorem c_X4_madeMany (l : Launch) (E : zE) (q : Nat → Nat) (z pa sl sv sp pd od : Int → Int) (pm ty om st wr : Int) (h0 : ∀ g : Int, 0 ≤ g → g ≤ 5 → 0 ≤ zg z g 1 ∧ zg z g 1 ≤ 8) (h1 : CZ z) (h2 : rg (z 1)) : zF l E yX4_madeMany wsX4_madeMany 4 91 [.ref (q 0)] (wM E q z pa sl sv sp pd od pm ty om st wr) (mMany7 z) (wM E q z pa sl sv sp pd od pm ty om st wr) := by
  have hz := h1
  have hm := h0
  refine zC_of (cc := cX4_madeMany) (maxL := 3) (by decide) rfl (Nat.le_of_ble_eq_true rfl) ?_
  intro p e s m below meth c ls A hx hb hr hts hown hlocks hml hK hA hS hP hD hl
  have hown : s.vm.findClass RX4 = some m.cls := hown
  have hl : lv_has ls 3 [(0, .ref (q 0))] := hl
  refine lv_iconst (v := iI 0) hx hb dX4_madeMany_0 (by decide) ?_
  refine lv_istore_n (lv' := [(1, .int (iI 0)), (0, .ref (q 0))]) hx hb dX4_madeMany_1 rfl hl (by decide) rfl (fun ls hl => ?_)
  refine lv_iconst (v := iI 0) hx hb dX4_madeMany_2 (by decide) ?_
  refine lv_istore_n (lv' := [(2, .int (iI 0)), (1, .int (iI 0)), (0, .ref (q 0))]) hx hb dX4_madeMany_3 rfl hl (by decide) rfl (fun ls hl => ?_)
  have hloop4 : ∀ (n : Nat) (n1 : Int) (i1 : Int) (hmu : 6 - i1 = (n : Int)) (hi4_0 : n1 = itr (fun g n => n + (if mMade z g = -6 then 0 else 1)) 0 (i1).toNat) (hi4_1 : 0 ≤ i1 ∧ i1 ≤ 6) (H : Heap) (locs : List Loc) (ls : Array Slot), va_P E.1 vwCl (wM E q z pa sl sv sp pd od pm ty om st wr) H → va_D A (wM E q z pa sl sv sp pd od pm ty om st wr) → va_S A s.heap H locs → lv_has ls 3 [(2, .int (iI i1)), (1, .int (iI n1)), (0, .ref (q 0))] → W p l e (zR 4 91) s m ([.ref (q 0)] : List Value).toArray below meth c H locs 0 0 (MQ below (zQ E A (S := Unit) (fun x _ => x = (mMany7 z)) (fun _ => wM E q z pa sl sv sp pd od pm ty om st wr)) ([.ref (q 0)] : List Value).toArray s 0 0 A) (F0 m 4 ls []) := by
    intro n
    induction n using Nat.strongRecOn with
    | ind n ih4 =>
      intro n1 i1 hmu4 hi4_0 hi4_1 H locs ls hP hD hS hl
      refine lv_iload_n hx hb dX4_madeMany_4 rfl (lv_at hl 0 rfl) ?_
      refine lv_bipush (v := iI 6) hx hb dX4_madeMany_5 (by decide) ?_
      refine z_icmp_ge (tgt := 34) hx hb dX4_madeMany_7 (by decide) ⟨by first | omega | exact (hz _ _ (by omega)).1 | exact (hz _ _ (by omega)).2, by first | omega | exact (hz _ _ (by omega)).1 | exact (hz _ _ (by omega)).2⟩ ⟨by first | omega | exact (hz _ _ (by omega)).1 | exact (hz _ _ (by omega)).2, by first | omega | exact (hz _ _ (by omega)).1 | exact (hz _ _ (by omega)).2⟩ (fun c_7 => ?_) (fun c_7 => ?_)
      · refine lv_iload_n hx hb dX4_madeMany_34 rfl (lv_at hl 1 rfl) ?_
        exact z_iret hx hb hr hlocks hK hS () (by rw [hi4_0, show i1 = 6 by omega]; rfl) hP hD dX4_madeMany_35
      · refine lv_iload_n hx hb dX4_madeMany_10 rfl (lv_at hl 1 rfl) ?_
        refine lv_aload_n hx hb dX4_madeMany_11 rfl (lv_at hl 2 rfl) ?_
        refine lv_iload_n hx hb dX4_madeMany_12 rfl (lv_at hl 0 rfl) ?_
        refine z_callV0 (ci := 4) (qk := 0) (As := [.int (iI i1)]) (rest := [.int (iI n1)]) hx hb hml hown hts hK hA hl.1 hP hD hS (c_X4_madePlace l E q z pa sl sv sp pd od pm ty om st wr i1  (by first | omega | exact hz _ _ (by omega) | exact hz | exact ⟨by omega, by omega⟩ | exact hm _ (by omega) (by omega)) (by first | omega | exact hz _ _ (by omega) | exact hz | exact ⟨by omega, by omega⟩ | exact hm _ (by omega) (by omega)) (by first | omega | exact hz _ _ (by omega) | exact hz | exact ⟨by omega, by omega⟩ | exact hm _ (by omega) (by omega)) (by first | omega | exact hz _ _ (by omega) | exact hz | exact ⟨by omega, by omega⟩ | exact hm _ (by omega) (by omega))) gX4_madeMany_X4_madePlace rfl ndX4_madePlace ⟨Nat.le_of_ble_eq_true rfl, Nat.le_of_ble_eq_true rfl⟩ rfl rfl rfl rfl rfl (Nat.le_of_ble_eq_true rfl) dX4_madeMany_13 ⟨Nat.le_of_ble_eq_true rfl, Nat.le_of_ble_eq_true rfl⟩ (fun x u H locs hpost hP hD hS => ?_)
        subst hpost
        have hP : va_P E.1 vwCl (wM E q z pa sl sv sp pd od pm ty om st wr) H := hP
        have hD : va_D A (wM E q z pa sl sv sp pd od pm ty om st wr) := hD
        have hp := mMade_rg (z := z) (g := i1) (hm _ (by omega) (by omega)).1
        have hm2 := hm i1 (by omega) (by omega)
        refine lv_bipush (v := iI (-6)) hx hb dX4_madeMany_16 (by decide) ?_
        refine z_icmp_ne (tgt := 25) hx hb dX4_madeMany_18 (by decide) ⟨by first | omega | exact (hz _ _ (by omega)).1 | exact (hz _ _ (by omega)).2, by first | omega | exact (hz _ _ (by omega)).1 | exact (hz _ _ (by omega)).2⟩ ⟨by first | omega | exact (hz _ _ (by omega)).1 | exact (hz _ _ (by omega)).2, by first | omega | exact (hz _ _ (by omega)).1 | exact (hz _ _ (by omega)).2⟩ (fun c_18 => ?_) (fun c_18 => ?_)
        · refine lv_iconst (v := iI 1) hx hb dX4_madeMany_25 (by decide) ?_
          refine z_iadd hx hb dX4_madeMany_26 ?_
          refine lv_istore_n (lv' := [(1, .int (iI (n1 + 1))), (2, .int (iI i1)), (0, .ref (q 0))]) hx hb dX4_madeMany_27 rfl hl (by decide) rfl (fun ls hl => ?_)
          refine lv_iinc (v := iI (i1 + 1)) (lv' := [(2, .int (iI (i1 + 1))), (1, .int (iI (n1 + 1))), (0, .ref (q 0))]) hx hb dX4_madeMany_28 hl (k := 1) rfl (iI_add _ _) (by decide) rfl (fun ls hl => ?_)
          refine lv_goto (tgt := 4) hx hb dX4_madeMany_31 (by decide) ?_
          exact ih4 (6 - (i1 + 1) : Int).toNat (by omega) (n1 + 1) (i1 + 1) (by omega) (by rw [itr_step (by omega), ← hi4_0]; first | rw [if_pos c_18] | rw [if_neg c_18]) (by omega) _ _ ls hP hD hS (lv_sub hl [0, 1, 2] rfl)
        · refine lv_iconst (v := iI 0) hx hb dX4_madeMany_21 (by decide) ?_
          refine lv_goto (tgt := 26) hx hb dX4_madeMany_22 (by decide) ?_
          refine z_iadd hx hb dX4_madeMany_26 ?_
          refine lv_istore_n (lv' := [(1, .int (iI (n1 + 0))), (2, .int (iI i1)), (0, .ref (q 0))]) hx hb dX4_madeMany_27 rfl hl (by decide) rfl (fun ls hl => ?_)
          refine lv_iinc (v := iI (i1 + 1)) (lv' := [(2, .int (iI (i1 + 1))), (1, .int (iI (n1 + 0))), (0, .ref (q 0))]) hx hb dX4_madeMany_28 hl (k := 1) rfl (iI_add _ _) (by decide) rfl (fun ls hl => ?_)
          refine lv_goto (tgt := 4) hx hb dX4_madeMany_31 (by decide) ?_
          exact ih4 (6 - (i1 + 1) : Int).toNat (by omega) (n1 + 0) (i1 + 1) (by omega) (by rw [itr_step (by omega), ← hi4_0]; first | rw [if_pos c_18] | rw [if_neg c_18]) (by omega) _ _ ls hP hD hS (lv_sub hl [0, 1, 2] rfl)
  exact hloop4 (6 - 0 : Int).toNat 0 0 (by omega) (rfl) (by omega) _ _ ls hP hD hS (lv_sub hl [0, 1, 2] rfl)

theorem ndX4_holes : yX4_holes.cls = RX4 ∧ yX4_holes.cls ≠ "java/lang/invoke/MethodHandle" ∧ yX4_holes.cls ≠ "java/lang/invoke/VarHandle" ∧ (parseMethodDescriptor yX4_holes.desc).map (fun d => d.parameters.length) = some 1 := by decide +kernel
set_option maxRecDepth 100000 in
set_option maxHeartbeats 4000000 in
theorem c_X4_holes (l : Launch) (E : zE) (q : Nat → Nat) (z pa sl sv sp pd od : Int → Int) (pm ty om st wr : Int) (g : Int) (h0 : 0 ≤ g ∧ g ≤ 5) (h1 : 0 ≤ zg z g 1 ∧ zg z g 1 ≤ 8) (h2 : CZ z) : zF l E yX4_holes wsX4_holes 3 67 [.ref (q 0), .int (iI g)] (wM E q z pa sl sv sp pd od pm ty om st wr) (mHoles z g) (wM E q z pa sl sv sp pd od pm ty om st wr) := by
  have hz := h2
  refine zC_of (cc := cX4_holes) (maxL := 4) (by decide) rfl (Nat.le_of_ble_eq_true rfl) ?_
  intro p e s m below meth c ls A hx hb hr hts hown hlocks hml hK hA hS hP hD hl
  have hown : s.vm.findClass RX4 = some m.cls := hown
  have hl : lv_has ls 4 [(0, .ref (q 0)), (1, .int (iI g))] := hl
  refine lv_iconst (v := iI 0) hx hb dX4_holes_0 (by decide) ?_
  refine lv_istore_n (lv' := [(2, .int (iI 0)), (0, .ref (q 0)), (1, .int (iI g))]) hx hb dX4_holes_1 rfl hl (by decide) rfl (fun ls hl => ?_)
  refine lv_iconst (v := iI 0) hx hb dX4_holes_2 (by decide) ?_
  refine lv_istore_n (lv' := [(3, .int (iI 0)), (2, .int (iI 0)), (0, .ref (q 0)), (1, .int (iI g))]) hx hb dX4_holes_3 rfl hl (by decide) rfl (fun ls hl => ?_)
  have hloop4 : ∀ (n : Nat) (n1 : Int) (i1 : Int) (hmu : zg z g 1 - i1 = (n : Int)) (hi4_0 : n1 = itr (fun p n => n + (if zg z g (15 + 5 * p + 2) = -6 then 1 else 0)) 0 (i1).toNat) (hi4_1 : 0 ≤ i1 ∧ i1 ≤ zg z g 1) (H : Heap) (locs : List Loc) (ls : Array Slot), va_P E.1 vwCl (wM E q z pa sl sv sp pd od pm ty om st wr) H → va_D A (wM E q z pa sl sv sp pd od pm ty om st wr) → va_S A s.heap H locs → lv_has ls 4 [(3, .int (iI i1)), (2, .int (iI n1)), (0, .ref (q 0)), (1, .int (iI g))] → W p l e (zR 3 67) s m ([.ref (q 0), .int (iI g)] : List Value).toArray below meth c H locs 0 0 (MQ below (zQ E A (S := Unit) (fun x _ => x = (mHoles z g)) (fun _ => wM E q z pa sl sv sp pd od pm ty om st wr)) ([.ref (q 0), .int (iI g)] : List Value).toArray s 0 0 A) (F0 m 4 ls []) := by
    intro n
    induction n using Nat.strongRecOn with
    | ind n ih4 =>
      intro n1 i1 hmu4 hi4_0 hi4_1 H locs ls hP hD hS hl
      refine lv_iload_n hx hb dX4_holes_4 rfl (lv_at hl 0 rfl) ?_
      refine lv_aload_n hx hb dX4_holes_5 rfl (lv_at hl 2 rfl) ?_
      refine lv_iload_n hx hb dX4_holes_6 rfl (lv_at hl 3 rfl) ?_
      refine z_callV0 (ci := 4) (qk := 0) (As := [.int (iI g)]) (rest := [.int (iI i1)]) hx hb hml hown hts hK hA hl.1 hP hD hS (c_X4_many l E q z pa sl sv sp pd od pm ty om st wr g  (by first | omega | exact hz _ _ (by omega) | exact hz | exact ⟨by omega, by omega⟩)) gX4_holes_X4_many rfl ndX4_many ⟨Nat.le_of_ble_eq_true rfl, Nat.le_of_ble_eq_true rfl⟩ rfl rfl rfl rfl rfl (Nat.le_of_ble_eq_true rfl) dX4_holes_7 ⟨Nat.le_of_ble_eq_true rfl, Nat.le_of_ble_eq_true rfl⟩ (fun x u H locs hpost hP hD hS => ?_)
      subst hpost
      have hP : va_P E.1 vwCl (wM E q z pa sl sv sp pd od pm ty om st wr) H := hP
      have hD : va_D A (wM E q z pa sl sv sp pd od pm ty om st wr) := hD
      refine z_icmp_ge (tgt := 36) hx hb dX4_holes_10 (by decide) ⟨by first | omega | exact (hz _ _ (by omega)).1 | exact (hz _ _ (by omega)).2, by first | omega | exact (hz _ _ (by omega)).1 | exact (hz _ _ (by omega)).2⟩ ⟨by first | omega | exact (hz _ _ (by omega)).1 | exact (hz _ _ (by omega)).2, by first | omega | exact (hz _ _ (by omega)).1 | exact (hz _ _ (by omega)).2⟩ (fun c_10 => ?_) (fun c_10 => ?_)
      · refine lv_iload_n hx hb dX4_holes_36 rfl (lv_at hl 1 rfl) ?_
        exact z_iret hx hb hr hlocks hK hS () (by rw [hi4_0, show i1 = zg z g 1 by omega]; rfl) hP hD dX4_holes_37
      · refine lv_iload_n hx hb dX4_holes_13 rfl (lv_at hl 1 rfl) ?_
        refine lv_aload_n hx hb dX4_holes_14 rfl (lv_at hl 2 rfl) ?_
        refine lv_iload_n hx hb dX4_holes_15 rfl (lv_at hl 3 rfl) ?_
        refine lv_iload_n hx hb dX4_holes_16 rfl (lv_at hl 0 rfl) ?_
        refine z_callV0 (ci := 4) (qk := 0) (As := [.int (iI g), .int (iI i1)]) (rest := [.int (iI n1)]) hx hb hml hown hts hK hA hl.1 hP hD hS (c_X4_isHole l E q z pa sl sv sp pd od pm ty om st wr g i1  (by first | omega | exact hz _ _ (by omega) | exact hz | exact ⟨by omega, by omega⟩) (by first | omega | exact hz _ _ (by omega) | exact hz | exact ⟨by omega, by omega⟩) (by first | omega | exact hz _ _ (by omega) | exact hz | exact ⟨by omega, by omega⟩)) gX4_holes_X4_isHole rfl ndX4_isHole ⟨Nat.le_of_ble_eq_true rfl, Nat.le_of_ble_eq_true rfl⟩ rfl rfl rfl rfl rfl (Nat.le_of_ble_eq_true rfl) dX4_holes_17 ⟨Nat.le_of_ble_eq_true rfl, Nat.le_of_ble_eq_true rfl⟩ (fun x u H locs hpost hP hD hS => ?_)
        subst hpost
        have hP : va_P E.1 vwCl (wM E q z pa sl sv sp pd od pm ty om st wr) H := hP
        have hD : va_D A (wM E q z pa sl sv sp pd od pm ty om st wr) := hD
        refine z_ifb_eq (tgt := 27) hx hb dX4_holes_20 (by decide) (fun c_20 => ?_) (fun c_20 => ?_)
        · refine lv_iconst (v := iI 0) hx hb dX4_holes_27 (by decide) ?_
          refine z_iadd hx hb dX4_holes_28 ?_
          refine lv_istore_n (lv' := [(2, .int (iI (n1 + 0))), (3, .int (iI i1)), (0, .ref (q 0)), (1, .int (iI g))]) hx hb dX4_holes_29 rfl hl (by decide) rfl (fun ls hl => ?_)
          refine lv_iinc (v := iI (i1 + 1)) (lv' := [(3, .int (iI (i1 + 1))), (2, .int (iI (n1 + 0))), (0, .ref (q 0)), (1, .int (iI g))]) hx hb dX4_holes_30 hl (k := 1) rfl (iI_add _ _) (by decide) rfl (fun ls hl => ?_)
          refine lv_goto (tgt := 4) hx hb dX4_holes_33 (by decide) ?_
          exact ih4 (zg z g 1 - (i1 + 1) : Int).toNat (by omega) (n1 + 0) (i1 + 1) (by omega) (by rw [itr_step (by omega), ← hi4_0]; first | rw [if_pos c_20] | rw [if_neg c_20]) (by omega) _ _ ls hP hD hS (lv_sub hl [0, 1, 2, 3] rfl)
        · refine lv_iconst (v := iI 1) hx hb dX4_holes_23 (by decide) ?_
          refine lv_goto (tgt := 28) hx hb dX4_holes_24 (by decide) ?_
          refine z_iadd hx hb dX4_holes_28 ?_
          refine lv_istore_n (lv' := [(2, .int (iI (n1 + 1))), (3, .int (iI i1)), (0, .ref (q 0)), (1, .int (iI g))]) hx hb dX4_holes_29 rfl hl (by decide) rfl (fun ls hl => ?_)
          refine lv_iinc (v := iI (i1 + 1)) (lv' := [(3, .int (iI (i1 + 1))), (2, .int (iI (n1 + 1))), (0, .ref (q 0)), (1, .int (iI g))]) hx hb dX4_holes_30 hl (k := 1) rfl (iI_add _ _) (by decide) rfl (fun ls hl => ?_)
          refine lv_goto (tgt := 4) hx hb dX4_holes_33 (by decide) ?_
          exact ih4 (zg z g 1 - (i1 + 1) : Int).toNat (by omega) (n1 + 1) (i1 + 1) (by omega) (by rw [itr_step (by omega), ← hi4_0]; first | rw [if_pos c_20] | rw [if_neg c_20]) (by omega) _ _ ls hP hD hS (lv_sub hl [0, 1, 2, 3] rfl)
  exact hloop4 (zg z g 1 - 0 : Int).toNat 0 0 (by omega) (rfl) (by omega) _ _ ls hP hD hS (lv_sub hl [0, 1, 2, 3] rfl)

theorem ndX4_allData : yX4_allData.cls = RX4 ∧ yX4_allData.cls ≠ "java/lang/invoke/MethodHandle" ∧ yX4_allData.cls ≠ "java/lang/invoke/VarHandle" ∧ (parseMethodDescriptor yX4_allData.desc).map (fun d => d.parameters.length) = some 1 := by decide +kernel
set_option maxRecDepth 100000 in
set_option maxHeartbeats 4000000 in
theorem c_X4_allData (l : Launch) (E : zE) (q : Nat → Nat) (z pa sl sv sp pd od : Int → Int) (pm ty om st wr : Int) (g : Int) (h0 : 0 ≤ g ∧ g ≤ 5) (h1 : 0 ≤ zg z g 1 ∧ zg z g 1 ≤ 8) (h2 : CZ z) : zF l E yX4_allData wsX4_allData 3 67 [.ref (q 0), .int (iI g)] (wM E q z pa sl sv sp pd od pm ty om st wr) (mSum z g) (wM E q z pa sl sv sp pd od pm ty om st wr) := by
  have hz := h2
  refine zC_of (cc := cX4_allData) (maxL := 4) (by decide) rfl (Nat.le_of_ble_eq_true rfl) ?_
  intro p e s m below meth c ls A hx hb hr hts hown hlocks hml hK hA hS hP hD hl
  have hown : s.vm.findClass RX4 = some m.cls := hown
  have hl : lv_has ls 4 [(0, .ref (q 0)), (1, .int (iI g))] := hl
  refine lv_iconst (v := iI 0) hx hb dX4_allData_0 (by decide) ?_
  refine lv_istore_n (lv' := [(2, .int (iI 0)), (0, .ref (q 0)), (1, .int (iI g))]) hx hb dX4_allData_1 rfl hl (by decide) rfl (fun ls hl => ?_)
  refine lv_iconst (v := iI 0) hx hb dX4_allData_2 (by decide) ?_
  refine lv_istore_n (lv' := [(3, .int (iI 0)), (2, .int (iI 0)), (0, .ref (q 0)), (1, .int (iI g))]) hx hb dX4_allData_3 rfl hl (by decide) rfl (fun ls hl => ?_)
  have hloop4 : ∀ (n : Nat) (n1 : Int) (i1 : Int) (hmu : zg z g 1 - i1 = (n : Int)) (hi4_0 : n1 = itr (fun p n => n + (if zg z g (15 + 5 * p + 2) = -6 then 0 else zg z g (15 + 5 * p + 2))) 0 (i1).toNat) (hi4_1 : 0 ≤ i1 ∧ i1 ≤ zg z g 1) (H : Heap) (locs : List Loc) (ls : Array Slot), va_P E.1 vwCl (wM E q z pa sl sv sp pd od pm ty om st wr) H → va_D A (wM E q z pa sl sv sp pd od pm ty om st wr) → va_S A s.heap H locs → lv_has ls 4 [(3, .int (iI i1)), (2, .int (iI n1)), (0, .ref (q 0)), (1, .int (iI g))] → W p l e (zR 3 67) s m ([.ref (q 0), .int (iI g)] : List Value).toArray below meth c H locs 0 0 (MQ below (zQ E A (S := Unit) (fun x _ => x = (mSum z g)) (fun _ => wM E q z pa sl sv sp pd od pm ty om st wr)) ([.ref (q 0), .int (iI g)] : List Value).toArray s 0 0 A) (F0 m 4 ls []) := by
    intro n
    induction n using Nat.strongRecOn with
    | ind n ih4 =>
      intro n1 i1 hmu4 hi4_0 hi4_1 H locs ls hP hD hS hl
      refine lv_iload_n hx hb dX4_allData_4 rfl (lv_at hl 0 rfl) ?_
      refine lv_aload_n hx hb dX4_allData_5 rfl (lv_at hl 2 rfl) ?_
      refine lv_iload_n hx hb dX4_allData_6 rfl (lv_at hl 3 rfl) ?_
      refine z_callV0 (ci := 4) (qk := 0) (As := [.int (iI g)]) (rest := [.int (iI i1)]) hx hb hml hown hts hK hA hl.1 hP hD hS (c_X4_many l E q z pa sl sv sp pd od pm ty om st wr g  (by first | omega | exact hz _ _ (by omega) | exact hz | exact ⟨by omega, by omega⟩)) gX4_allData_X4_many rfl ndX4_many ⟨Nat.le_of_ble_eq_true rfl, Nat.le_of_ble_eq_true rfl⟩ rfl rfl rfl rfl rfl (Nat.le_of_ble_eq_true rfl) dX4_allData_7 ⟨Nat.le_of_ble_eq_true rfl, Nat.le_of_ble_eq_true rfl⟩ (fun x u H locs hpost hP hD hS => ?_)
      subst hpost
      have hP : va_P E.1 vwCl (wM E q z pa sl sv sp pd od pm ty om st wr) H := hP
      have hD : va_D A (wM E q z pa sl sv sp pd od pm ty om st wr) := hD
      refine z_icmp_ge (tgt := 42) hx hb dX4_allData_10 (by decide) ⟨by first | omega | exact (hz _ _ (by omega)).1 | exact (hz _ _ (by omega)).2, by first | omega | exact (hz _ _ (by omega)).1 | exact (hz _ _ (by omega)).2⟩ ⟨by first | omega | exact (hz _ _ (by omega)).1 | exact (hz _ _ (by omega)).2, by first | omega | exact (hz _ _ (by omega)).1 | exact (hz _ _ (by omega)).2⟩ (fun c_10 => ?_) (fun c_10 => ?_)
      · refine lv_iload_n hx hb dX4_allData_42 rfl (lv_at hl 1 rfl) ?_
        exact z_iret hx hb hr hlocks hK hS () (by rw [hi4_0, show i1 = zg z g 1 by omega]; rfl) hP hD dX4_allData_43
      · refine lv_iload_n hx hb dX4_allData_13 rfl (lv_at hl 1 rfl) ?_
        refine lv_aload_n hx hb dX4_allData_14 rfl (lv_at hl 2 rfl) ?_
        refine lv_iload_n hx hb dX4_allData_15 rfl (lv_at hl 3 rfl) ?_
        refine lv_iload_n hx hb dX4_allData_16 rfl (lv_at hl 0 rfl) ?_
        refine z_callV0 (ci := 4) (qk := 0) (As := [.int (iI g), .int (iI i1)]) (rest := [.int (iI n1)]) hx hb hml hown hts hK hA hl.1 hP hD hS (c_X4_isHole l E q z pa sl sv sp pd od pm ty om st wr g i1  (by first | omega | exact hz _ _ (by omega) | exact hz | exact ⟨by omega, by omega⟩) (by first | omega | exact hz _ _ (by omega) | exact hz | exact ⟨by omega, by omega⟩) (by first | omega | exact hz _ _ (by omega) | exact hz | exact ⟨by omega, by omega⟩)) gX4_allData_X4_isHole rfl ndX4_isHole ⟨Nat.le_of_ble_eq_true rfl, Nat.le_of_ble_eq_true rfl⟩ rfl rfl rfl rfl rfl (Nat.le_of_ble_eq_true rfl) dX4_allData_17 ⟨Nat.le_of_ble_eq_true rfl, Nat.le_of_ble_eq_true rfl⟩ (fun x u H locs hpost hP hD hS => ?_)
        subst hpost
        have hP : va_P E.1 vwCl (wM E q z pa sl sv sp pd od pm ty om st wr) H := hP
        have hD : va_D A (wM E q z pa sl sv sp pd od pm ty om st wr) := hD
        refine z_ifb_eq (tgt := 27) hx hb dX4_allData_20 (by decide) (fun c_20 => ?_) (fun c_20 => ?_)
        · refine lv_aload_n hx hb dX4_allData_27 rfl (lv_at hl 2 rfl) ?_
          refine lv_iload_n hx hb dX4_allData_28 rfl (lv_at hl 3 rfl) ?_
          refine lv_iload_n hx hb dX4_allData_29 rfl (lv_at hl 0 rfl) ?_
          refine lv_iconst (v := iI 2) hx hb dX4_allData_30 (by decide) ?_
          refine z_callV0 (ci := 4) (qk := 0) (As := [.int (iI g), .int (iI i1), .int (iI 2)]) (rest := [.int (iI n1)]) hx hb hml hown hts hK hA hl.1 hP hD hS (c_X4_gen l E q z pa sl sv sp pd od pm ty om st wr g i1 2  (by first | omega | exact hz _ _ (by omega) | exact hz | exact ⟨by omega, by omega⟩) (by first | omega | exact hz _ _ (by omega) | exact hz | exact ⟨by omega, by omega⟩)) gX4_allData_X4_gen rfl ndX4_gen ⟨Nat.le_of_ble_eq_true rfl, Nat.le_of_ble_eq_true rfl⟩ rfl rfl rfl rfl rfl (Nat.le_of_ble_eq_true rfl) dX4_allData_31 ⟨Nat.le_of_ble_eq_true rfl, Nat.le_of_ble_eq_true rfl⟩ (fun x u H locs hpost hP hD hS => ?_)
          subst hpost
          have hP : va_P E.1 vwCl (wM E q z pa sl sv sp pd od pm ty om st wr) H := hP
          have hD : va_D A (wM E q z pa sl sv sp pd od pm ty om st wr) := hD
          refine z_iadd hx hb dX4_allData_34 ?_
          refine lv_istore_n (lv' := [(2, .int (iI (n1 + (zg z g (15 + 5 * i1 + 2))))), (3, .int (iI i1)), (0, .ref (q 0)), (1, .int (iI g))]) hx hb dX4_allData_35 rfl hl (by decide) rfl (fun ls hl => ?_)
          refine lv_iinc (v := iI (i1 + 1)) (lv' := [(3, .int (iI (i1 + 1))), (2, .int (iI (n1 + (zg z g (15 + 5 * i1 + 2))))), (0, .ref (q 0)), (1, .int (iI g))]) hx hb dX4_allData_36 hl (k := 1) rfl (iI_add _ _) (by decide) rfl (fun ls hl => ?_)
          refine lv_goto (tgt := 4) hx hb dX4_allData_39 (by decide) ?_
          exact ih4 (zg z g 1 - (i1 + 1) : Int).toNat (by omega) (n1 + (zg z g (15 + 5 * i1 + 2))) (i1 + 1) (by omega) (by rw [itr_step (by omega), ← hi4_0]; first | rw [if_pos c_20] | rw [if_neg c_20]) (by omega) _ _ ls hP hD hS (lv_sub hl [0, 1, 2, 3] rfl)
        · refine lv_iconst (v := iI 0) hx hb dX4_allData_23 (by decide) ?_
          refine lv_goto (tgt := 34) hx hb dX4_allData_24 (by decide) ?_
          refine z_iadd hx hb dX4_allData_34 ?_
          refine lv_istore_n (lv' := [(2, .int (iI (n1 + 0))), (3, .int (iI i1)), (0, .ref (q 0)), (1, .int (iI g))]) hx hb dX4_allData_35 rfl hl (by decide) rfl (fun ls hl => ?_)
          refine lv_iinc (v := iI (i1 + 1)) (lv' := [(3, .int (iI (i1 + 1))), (2, .int (iI (n1 + 0))), (0, .ref (q 0)), (1, .int (iI g))]) hx hb dX4_allData_36 hl (k := 1) rfl (iI_add _ _) (by decide) rfl (fun ls hl => ?_)
          refine lv_goto (tgt := 4) hx hb dX4_allData_39 (by decide) ?_
          exact ih4 (zg z g 1 - (i1 + 1) : Int).toNat (by omega) (n1 + 0) (i1 + 1) (by omega) (by rw [itr_step (by omega), ← hi4_0]; first | rw [if_pos c_20] | rw [if_neg c_20]) (by omega) _ _ ls hP hD hS (lv_sub hl [0, 1, 2, 3] rfl)
  exact hloop4 (zg z g 1 - 0 : Int).toNat 0 0 (by omega) (rfl) (by omega) _ _ ls hP hD hS (lv_sub hl [0, 1, 2, 3] rfl)

theorem ndX4_nameOf : yX4_nameOf.cls = RX4 ∧ yX4_nameOf.cls ≠ "java/lang/invoke/MethodHandle" ∧ yX4_nameOf.cls ≠ "java/lang/invoke/VarHandle" ∧ (parseMethodDescriptor yX4_nameOf.desc).map (fun d => d.parameters.length) = some 2 := by decide +kernel
set_option maxRecDepth 100000 in
set_option maxHeartbeats 4000000 in
theorem c_X4_nameOf (l : Launch) (E : zE) (q : Nat → Nat) (z pa sl sv sp pd od : Int → Int) (pm ty om st wr : Int) (g : Int) (pl : Int) (h0 : 0 ≤ g ∧ g ≤ 5) (h1 : 0 ≤ zg z g 1 ∧ zg z g 1 ≤ 8) (h2 : CZ z) (h3 : rg (z 1)) (h4 : 0 ≤ pl ∧ pl ≤ 8) : zF l E yX4_nameOf wsX4_nameOf 4 92 [.ref (q 0), .int (iI g), .int (iI pl)] (wM E q z pa sl sv sp pd od pm ty om st wr) (mNameOf z g pl) (wM E q z pa sl sv sp pd od pm ty om st wr) := by
  have hz := h2
  refine zC_of (cc := cX4_nameOf) (maxL := 5) (by decide) rfl (Nat.le_of_ble_eq_true rfl) ?_
  intro p e s m below meth c ls A hx hb hr hts hown hlocks hml hK hA hS hP hD hl
  have hown : s.vm.findClass RX4 = some m.cls := hown
  have hl : lv_has ls 5 [(0, .ref (q 0)), (1, .int (iI g)), (2, .int (iI pl))] := hl
  refine lv_bipush (v := iI (-6)) hx hb dX4_nameOf_0 (by decide) ?_
  refine lv_istore_n (lv' := [(3, .int (iI (-6))), (0, .ref (q 0)), (1, .int (iI g)), (2, .int (iI pl))]) hx hb dX4_nameOf_2 rfl hl (by decide) rfl (fun ls hl => ?_)
  refine lv_bipush (v := iI (-7)) hx hb dX4_nameOf_3 (by decide) ?_
  refine lv_istore (lv' := [(4, .int (iI (-7))), (3, .int (iI (-6))), (0, .ref (q 0)), (1, .int (iI g)), (2, .int (iI pl))]) hx hb dX4_nameOf_5 hl (by decide) rfl (fun ls hl => ?_)
  have hloop7 : ∀ (n : Nat) (n1 : Int) (i1 : Int) (hmu : 2 - i1 = (n : Int)) (hi7_0 : n1 = itr (fun k r => if mTold z g (k - 7) = pl then (k - 7) + 10 else r) (-6) (i1 + 7).toNat) (hi7_1 : -7 ≤ i1 ∧ i1 ≤ 2) (hi7_2 : i1 = -7 ∨ z 1 = 1) (H : Heap) (locs : List Loc) (ls : Array Slot), va_P E.1 vwCl (wM E q z pa sl sv sp pd od pm ty om st wr) H → va_D A (wM E q z pa sl sv sp pd od pm ty om st wr) → va_S A s.heap H locs → lv_has ls 5 [(4, .int (iI i1)), (3, .int (iI n1)), (0, .ref (q 0)), (1, .int (iI g)), (2, .int (iI pl))] → W p l e (zR 4 92) s m ([.ref (q 0), .int (iI g), .int (iI pl)] : List Value).toArray below meth c H locs 0 0 (MQ below (zQ E A (S := Unit) (fun x _ => x = (mNameOf z g pl)) (fun _ => wM E q z pa sl sv sp pd od pm ty om st wr)) ([.ref (q 0), .int (iI g), .int (iI pl)] : List Value).toArray s 0 0 A) (F0 m 7 ls []) := by
    intro n
    induction n using Nat.strongRecOn with
    | ind n ih7 =>
      intro n1 i1 hmu7 hi7_0 hi7_1 hi7_2 H locs ls hP hD hS hl
      refine lv_iload hx hb dX4_nameOf_7 (lv_at hl 0 rfl) ?_
      refine lv_iconst (v := iI 1) hx hb dX4_nameOf_9 (by decide) ?_
      refine z_icmp_gt (tgt := 47) hx hb dX4_nameOf_10 (by decide) ⟨by first | omega | exact (hz _ _ (by omega)).1 | exact (hz _ _ (by omega)).2, by first | omega | exact (hz _ _ (by omega)).1 | exact (hz _ _ (by omega)).2⟩ ⟨by first | omega | exact (hz _ _ (by omega)).1 | exact (hz _ _ (by omega)).2, by first | omega | exact (hz _ _ (by omega)).1 | exact (hz _ _ (by omega)).2⟩ (fun c_10 => ?_) (fun c_10 => ?_)
      · refine lv_iload_n hx hb dX4_nameOf_47 rfl (lv_at hl 1 rfl) ?_
        exact z_iret hx hb hr hlocks hK hS () (by unfold mNameOf; first | (rw [if_pos (by omega), hi7_0, show i1 + 7 = 9 by omega]; rfl) | (rw [if_neg c_17, hi7_0, show i1 + 7 = 0 by omega]; rfl)) hP hD dX4_nameOf_48
      · refine lv_aload_n hx hb dX4_nameOf_13 rfl (lv_at hl 2 rfl) ?_
        refine z_callV0 (ci := 4) (qk := 0) (As := []) (rest := []) hx hb hml hown hts hK hA hl.1 hP hD hS (c_X4_runs l E q z pa sl sv sp pd od pm ty om st wr   (by first | omega | exact hz _ _ (by omega) | exact hz | exact ⟨by omega, by omega⟩)) gX4_nameOf_X4_runs rfl ndX4_runs ⟨Nat.le_of_ble_eq_true rfl, Nat.le_of_ble_eq_true rfl⟩ rfl rfl rfl rfl rfl (Nat.le_of_ble_eq_true rfl) dX4_nameOf_14 ⟨Nat.le_of_ble_eq_true rfl, Nat.le_of_ble_eq_true rfl⟩ (fun x u H locs hpost hP hD hS => ?_)
        subst hpost
        have hP : va_P E.1 vwCl (wM E q z pa sl sv sp pd od pm ty om st wr) H := hP
        have hD : va_D A (wM E q z pa sl sv sp pd od pm ty om st wr) := hD
        refine z_ifb_eq (tgt := 47) hx hb dX4_nameOf_17 (by decide) (fun c_17 => ?_) (fun c_17 => ?_)
        · refine lv_iload_n hx hb dX4_nameOf_47 rfl (lv_at hl 1 rfl) ?_
          exact z_iret hx hb hr hlocks hK hS () (by unfold mNameOf; first | (rw [if_pos (by omega), hi7_0, show i1 + 7 = 9 by omega]; rfl) | (rw [if_neg c_17, hi7_0, show i1 + 7 = 0 by omega]; rfl)) hP hD dX4_nameOf_48
        · refine lv_aload_n hx hb dX4_nameOf_20 rfl (lv_at hl 2 rfl) ?_
          refine lv_iload_n hx hb dX4_nameOf_21 rfl (lv_at hl 3 rfl) ?_
          refine lv_iload hx hb dX4_nameOf_22 (lv_at hl 0 rfl) ?_
          refine z_callV0 (ci := 4) (qk := 0) (As := [.int (iI g), .int (iI i1)]) (rest := []) hx hb hml hown hts hK hA hl.1 hP hD hS (c_X4_told l E q z pa sl sv sp pd od pm ty om st wr g i1  (by first | omega | exact hz _ _ (by omega) | exact hz | exact ⟨by omega, by omega⟩) (by first | omega | exact hz _ _ (by omega) | exact hz | exact ⟨by omega, by omega⟩) (by first | omega | exact hz _ _ (by omega) | exact hz | exact ⟨by omega, by omega⟩) (by first | omega | exact hz _ _ (by omega) | exact hz | exact ⟨by omega, by omega⟩) (by first | omega | exact hz _ _ (by omega) | exact hz | exact ⟨by omega, by omega⟩)) gX4_nameOf_X4_told rfl ndX4_told ⟨Nat.le_of_ble_eq_true rfl, Nat.le_of_ble_eq_true rfl⟩ rfl rfl rfl rfl rfl (Nat.le_of_ble_eq_true rfl) dX4_nameOf_24 ⟨Nat.le_of_ble_eq_true rfl, Nat.le_of_ble_eq_true rfl⟩ (fun x u H locs hpost hP hD hS => ?_)
          subst hpost
          have hP : va_P E.1 vwCl (wM E q z pa sl sv sp pd od pm ty om st wr) H := hP
          have hD : va_D A (wM E q z pa sl sv sp pd od pm ty om st wr) := hD
          have ht := mTold_rg (z := z) (g := g) (n := i1) (by omega)
          refine lv_iload_n hx hb dX4_nameOf_27 rfl (lv_at hl 4 rfl) ?_
          refine z_icmp_ne (tgt := 39) hx hb dX4_nameOf_28 (by decide) ⟨by first | omega | exact (hz _ _ (by omega)).1 | exact (hz _ _ (by omega)).2, by first | omega | exact (hz _ _ (by omega)).1 | exact (hz _ _ (by omega)).2⟩ ⟨by first | omega | exact (hz _ _ (by omega)).1 | exact (hz _ _ (by omega)).2, by first | omega | exact (hz _ _ (by omega)).1 | exact (hz _ _ (by omega)).2⟩ (fun c_28 => ?_) (fun c_28 => ?_)
          · refine lv_iload_n hx hb dX4_nameOf_39 rfl (lv_at hl 1 rfl) ?_
            refine lv_istore_n (lv' := [(3, .int (iI n1)), (4, .int (iI i1)), (0, .ref (q 0)), (1, .int (iI g)), (2, .int (iI pl))]) hx hb dX4_nameOf_40 rfl hl (by decide) rfl (fun ls hl => ?_)
            refine lv_iinc (v := iI (i1 + 1)) (lv' := [(4, .int (iI (i1 + 1))), (3, .int (iI n1)), (0, .ref (q 0)), (1, .int (iI g)), (2, .int (iI pl))]) hx hb dX4_nameOf_41 hl (k := 1) rfl (iI_add _ _) (by decide) rfl (fun ls hl => ?_)
            refine lv_goto (tgt := 7) hx hb dX4_nameOf_44 (by decide) ?_
            exact ih7 (2 - (i1 + 1) : Int).toNat (by omega) n1 (i1 + 1) (by omega) (by rw [show i1 + 1 + 7 = (i1 + 7) + 1 by omega, itr_step (by omega), show i1 + 7 - 7 = i1 by omega]; first | rw [if_pos c_28] | (rw [if_neg c_28]; exact hi7_0)) (by omega) (Or.inr c_17) _ _ ls hP hD hS (lv_sub hl [0, 1, 2, 3, 4] rfl)
          · refine lv_iload hx hb dX4_nameOf_31 (lv_at hl 0 rfl) ?_
            refine lv_bipush (v := iI 10) hx hb dX4_nameOf_33 (by decide) ?_
            refine z_iadd hx hb dX4_nameOf_35 ?_
            refine lv_goto (tgt := 40) hx hb dX4_nameOf_36 (by decide) ?_
            refine lv_istore_n (lv' := [(3, .int (iI (i1 + 10))), (4, .int (iI i1)), (0, .ref (q 0)), (1, .int (iI g)), (2, .int (iI pl))]) hx hb dX4_nameOf_40 rfl hl (by decide) rfl (fun ls hl => ?_)
            refine lv_iinc (v := iI (i1 + 1)) (lv' := [(4, .int (iI (i1 + 1))), (3, .int (iI (i1 + 10))), (0, .ref (q 0)), (1, .int (iI g)), (2, .int (iI pl))]) hx hb dX4_nameOf_41 hl (k := 1) rfl (iI_add _ _) (by decide) rfl (fun ls hl => ?_)
            refine lv_goto (tgt := 7) hx hb dX4_nameOf_44 (by decide) ?_
            exact ih7 (2 - (i1 + 1) : Int).toNat (by omega) (i1 + 10) (i1 + 1) (by omega) (by rw [show i1 + 1 + 7 = (i1 + 7) + 1 by omega, itr_step (by omega), show i1 + 7 - 7 = i1 by omega]; first | rw [if_pos c_28] | (rw [if_neg c_28]; exact hi7_0)) (by omega) (Or.inr c_17) _ _ ls hP hD hS (lv_sub hl [0, 1, 2, 3, 4] rfl)
  exact hloop7 (2 - (-7) : Int).toNat (-6) (-7) (by omega) (rfl) (by omega) (by omega) _ _ ls hP hD hS (lv_sub hl [0, 1, 2, 3, 4] rfl)

theorem ndX4_allHoles : yX4_allHoles.cls = RX4 ∧ yX4_allHoles.cls ≠ "java/lang/invoke/MethodHandle" ∧ yX4_allHoles.cls ≠ "java/lang/invoke/VarHandle" ∧ (parseMethodDescriptor yX4_allHoles.desc).map (fun d => d.parameters.length) = some 0 := by decide +kernel
set_option maxRecDepth 100000 in
set_option maxHeartbeats 4000000 in
theorem c_X4_allHoles (l : Launch) (E : zE) (q : Nat → Nat) (z pa sl sv sp pd od : Int → Int) (pm ty om st wr : Int) (h0 : ∀ g : Int, 0 ≤ g → g ≤ 5 → 0 ≤ zg z g 1 ∧ zg z g 1 ≤ 8) (h1 : CZ z) : zF l E yX4_allHoles wsX4_allHoles 4 90 [.ref (q 0)] (wM E q z pa sl sv sp pd od pm ty om st wr) (mAllHoles z) (wM E q z pa sl sv sp pd od pm ty om st wr) := by
  have hz := h1
  have hm := h0
  refine zC_of (cc := cX4_allHoles) (maxL := 3) (by decide) rfl (Nat.le_of_ble_eq_true rfl) ?_
  intro p e s m below meth c ls A hx hb hr hts hown hlocks hml hK hA hS hP hD hl
  have hown : s.vm.findClass RX4 = some m.cls := hown
  have hl : lv_has ls 3 [(0, .ref (q 0))] := hl
  refine lv_iconst (v := iI 0) hx hb dX4_allHoles_0 (by decide) ?_
  refine lv_istore_n (lv' := [(1, .int (iI 0)), (0, .ref (q 0))]) hx hb dX4_allHoles_1 rfl hl (by decide) rfl (fun ls hl => ?_)
  refine lv_iconst (v := iI 0) hx hb dX4_allHoles_2 (by decide) ?_
  refine lv_istore_n (lv' := [(2, .int (iI 0)), (1, .int (iI 0)), (0, .ref (q 0))]) hx hb dX4_allHoles_3 rfl hl (by decide) rfl (fun ls hl => ?_)
  have hloop4 : ∀ (n : Nat) (n1 : Int) (i1 : Int) (hmu : 6 - i1 = (n : Int)) (hi4_0 : n1 = itr (fun g n => n + mHoles z g) 0 (i1).toNat) (hi4_1 : 0 ≤ i1 ∧ i1 ≤ 6) (H : Heap) (locs : List Loc) (ls : Array Slot), va_P E.1 vwCl (wM E q z pa sl sv sp pd od pm ty om st wr) H → va_D A (wM E q z pa sl sv sp pd od pm ty om st wr) → va_S A s.heap H locs → lv_has ls 3 [(2, .int (iI i1)), (1, .int (iI n1)), (0, .ref (q 0))] → W p l e (zR 4 90) s m ([.ref (q 0)] : List Value).toArray below meth c H locs 0 0 (MQ below (zQ E A (S := Unit) (fun x _ => x = (mAllHoles z)) (fun _ => wM E q z pa sl sv sp pd od pm ty om st wr)) ([.ref (q 0)] : List Value).toArray s 0 0 A) (F0 m 4 ls []) := by
    intro n
    induction n using Nat.strongRecOn with
    | ind n ih4 =>
      intro n1 i1 hmu4 hi4_0 hi4_1 H locs ls hP hD hS hl
      refine lv_iload_n hx hb dX4_allHoles_4 rfl (lv_at hl 0 rfl) ?_
      refine lv_bipush (v := iI 6) hx hb dX4_allHoles_5 (by decide) ?_
      refine z_icmp_ge (tgt := 24) hx hb dX4_allHoles_7 (by decide) ⟨by first | omega | exact (hz _ _ (by omega)).1 | exact (hz _ _ (by omega)).2, by first | omega | exact (hz _ _ (by omega)).1 | exact (hz _ _ (by omega)).2⟩ ⟨by first | omega | exact (hz _ _ (by omega)).1 | exact (hz _ _ (by omega)).2, by first | omega | exact (hz _ _ (by omega)).1 | exact (hz _ _ (by omega)).2⟩ (fun c_7 => ?_) (fun c_7 => ?_)
      · refine lv_iload_n hx hb dX4_allHoles_24 rfl (lv_at hl 1 rfl) ?_
        exact z_iret hx hb hr hlocks hK hS () (by rw [hi4_0, show i1 = 6 by omega]; rfl) hP hD dX4_allHoles_25
      · refine lv_iload_n hx hb dX4_allHoles_10 rfl (lv_at hl 1 rfl) ?_
        refine lv_aload_n hx hb dX4_allHoles_11 rfl (lv_at hl 2 rfl) ?_
        refine lv_iload_n hx hb dX4_allHoles_12 rfl (lv_at hl 0 rfl) ?_
        refine z_callV0 (ci := 4) (qk := 0) (As := [.int (iI i1)]) (rest := [.int (iI n1)]) hx hb hml hown hts hK hA hl.1 hP hD hS (c_X4_holes l E q z pa sl sv sp pd od pm ty om st wr i1  (by first | omega | exact hz _ _ (by omega) | exact hz | exact ⟨by omega, by omega⟩ | exact hm _ (by omega) (by omega)) (by first | omega | exact hz _ _ (by omega) | exact hz | exact ⟨by omega, by omega⟩ | exact hm _ (by omega) (by omega)) (by first | omega | exact hz _ _ (by omega) | exact hz | exact ⟨by omega, by omega⟩ | exact hm _ (by omega) (by omega))) gX4_allHoles_X4_holes rfl ndX4_holes ⟨Nat.le_of_ble_eq_true rfl, Nat.le_of_ble_eq_true rfl⟩ rfl rfl rfl rfl rfl (Nat.le_of_ble_eq_true rfl) dX4_allHoles_13 ⟨Nat.le_of_ble_eq_true rfl, Nat.le_of_ble_eq_true rfl⟩ (fun x u H locs hpost hP hD hS => ?_)
        subst hpost
        have hP : va_P E.1 vwCl (wM E q z pa sl sv sp pd od pm ty om st wr) H := hP
        have hD : va_D A (wM E q z pa sl sv sp pd od pm ty om st wr) := hD
        refine z_iadd hx hb dX4_allHoles_16 ?_
        refine lv_istore_n (lv' := [(1, .int (iI (n1 + (mHoles z i1)))), (2, .int (iI i1)), (0, .ref (q 0))]) hx hb dX4_allHoles_17 rfl hl (by decide) rfl (fun ls hl => ?_)
        refine lv_iinc (v := iI (i1 + 1)) (lv' := [(2, .int (iI (i1 + 1))), (1, .int (iI (n1 + (mHoles z i1)))), (0, .ref (q 0))]) hx hb dX4_allHoles_18 hl (k := 1) rfl (iI_add _ _) (by decide) rfl (fun ls hl => ?_)
        refine lv_goto (tgt := 4) hx hb dX4_allHoles_21 (by decide) ?_
        exact ih4 (6 - (i1 + 1) : Int).toNat (by omega) (n1 + (mHoles z i1)) (i1 + 1) (by omega) (by rw [itr_step (by omega), ← hi4_0]) (by omega) _ _ ls hP hD hS (lv_sub hl [0, 1, 2] rfl)
  exact hloop4 (6 - 0 : Int).toNat 0 0 (by omega) (rfl) (by omega) _ _ ls hP hD hS (lv_sub hl [0, 1, 2] rfl)

theorem ndX4_wholes : yX4_wholes.cls = RX4 ∧ yX4_wholes.cls ≠ "java/lang/invoke/MethodHandle" ∧ yX4_wholes.cls ≠ "java/lang/invoke/VarHandle" ∧ (parseMethodDescriptor yX4_wholes.desc).map (fun d => d.parameters.length) = some 0 := by decide +kernel
set_option maxRecDepth 100000 in
set_option maxHeartbeats 4000000 in
theorem c_X4_wholes (l : Launch) (E : zE) (q : Nat → Nat) (z pa sl sv sp pd od : Int → Int) (pm ty om st wr : Int) (h0 : ∀ g : Int, 0 ≤ g → g ≤ 5 → 0 ≤ zg z g 1 ∧ zg z g 1 ≤ 8) (h1 : CZ z) : zF l E yX4_wholes wsX4_wholes 5 112 [.ref (q 0)] (wM E q z pa sl sv sp pd od pm ty om st wr) (mWholes z) (wM E q z pa sl sv sp pd od pm ty om st wr) := by
  have hz := h1
  have hm := h0
  refine zC_of (cc := cX4_wholes) (maxL := 3) (by decide) rfl (Nat.le_of_ble_eq_true rfl) ?_
  intro p e s m below meth c ls A hx hb hr hts hown hlocks hml hK hA hS hP hD hl
  have hown : s.vm.findClass RX4 = some m.cls := hown
  have hl : lv_has ls 3 [(0, .ref (q 0))] := hl
  refine lv_iconst (v := iI 0) hx hb dX4_wholes_0 (by decide) ?_
  refine lv_istore_n (lv' := [(1, .int (iI 0)), (0, .ref (q 0))]) hx hb dX4_wholes_1 rfl hl (by decide) rfl (fun ls hl => ?_)
  refine lv_iconst (v := iI 0) hx hb dX4_wholes_2 (by decide) ?_
  refine lv_istore_n (lv' := [(2, .int (iI 0)), (1, .int (iI 0)), (0, .ref (q 0))]) hx hb dX4_wholes_3 rfl hl (by decide) rfl (fun ls hl => ?_)
  have hloop4 : ∀ (n : Nat) (n1 : Int) (i1 : Int) (hmu : 6 - i1 = (n : Int)) (hi4_0 : n1 = itr (fun g n => n + zg z g 1) 0 (i1).toNat) (hi4_1 : 0 ≤ i1 ∧ i1 ≤ 6) (H : Heap) (locs : List Loc) (ls : Array Slot), va_P E.1 vwCl (wM E q z pa sl sv sp pd od pm ty om st wr) H → va_D A (wM E q z pa sl sv sp pd od pm ty om st wr) → va_S A s.heap H locs → lv_has ls 3 [(2, .int (iI i1)), (1, .int (iI n1)), (0, .ref (q 0))] → W p l e (zR 5 112) s m ([.ref (q 0)] : List Value).toArray below meth c H locs 0 0 (MQ below (zQ E A (S := Unit) (fun x _ => x = (mWholes z)) (fun _ => wM E q z pa sl sv sp pd od pm ty om st wr)) ([.ref (q 0)] : List Value).toArray s 0 0 A) (F0 m 4 ls []) := by
    intro n
    induction n using Nat.strongRecOn with
    | ind n ih4 =>
      intro n1 i1 hmu4 hi4_0 hi4_1 H locs ls hP hD hS hl
      refine lv_iload_n hx hb dX4_wholes_4 rfl (lv_at hl 0 rfl) ?_
      refine lv_bipush (v := iI 6) hx hb dX4_wholes_5 (by decide) ?_
      refine z_icmp_ge (tgt := 24) hx hb dX4_wholes_7 (by decide) ⟨by first | omega | exact (hz _ _ (by omega)).1 | exact (hz _ _ (by omega)).2, by first | omega | exact (hz _ _ (by omega)).1 | exact (hz _ _ (by omega)).2⟩ ⟨by first | omega | exact (hz _ _ (by omega)).1 | exact (hz _ _ (by omega)).2, by first | omega | exact (hz _ _ (by omega)).1 | exact (hz _ _ (by omega)).2⟩ (fun c_7 => ?_) (fun c_7 => ?_)
      · refine lv_iload_n hx hb dX4_wholes_24 rfl (lv_at hl 1 rfl) ?_
        refine lv_aload_n hx hb dX4_wholes_25 rfl (lv_at hl 2 rfl) ?_
        refine z_callV0 (ci := 4) (qk := 0) (As := []) (rest := [.int (iI n1)]) hx hb hml hown hts hK hA hl.1 hP hD hS (c_X4_allHoles l E q z pa sl sv sp pd od pm ty om st wr   (by first | omega | exact hz _ _ (by omega) | exact hz | exact ⟨by omega, by omega⟩ | exact hm _ (by omega) (by omega)) (by first | omega | exact hz _ _ (by omega) | exact hz | exact ⟨by omega, by omega⟩ | exact hm _ (by omega) (by omega))) gX4_wholes_X4_allHoles rfl ndX4_allHoles ⟨Nat.le_of_ble_eq_true rfl, Nat.le_of_ble_eq_true rfl⟩ rfl rfl rfl rfl rfl (Nat.le_of_ble_eq_true rfl) dX4_wholes_26 ⟨Nat.le_of_ble_eq_true rfl, Nat.le_of_ble_eq_true rfl⟩ (fun x u H locs hpost hP hD hS => ?_)
        subst hpost
        have hP : va_P E.1 vwCl (wM E q z pa sl sv sp pd od pm ty om st wr) H := hP
        have hD : va_D A (wM E q z pa sl sv sp pd od pm ty om st wr) := hD
        refine z_isub hx hb dX4_wholes_29 ?_
        exact z_iret hx hb hr hlocks hK hS () (by rw [hi4_0, show i1 = 6 by omega]; rfl) hP hD dX4_wholes_30
      · refine lv_iload_n hx hb dX4_wholes_10 rfl (lv_at hl 1 rfl) ?_
        refine lv_aload_n hx hb dX4_wholes_11 rfl (lv_at hl 2 rfl) ?_
        refine lv_iload_n hx hb dX4_wholes_12 rfl (lv_at hl 0 rfl) ?_
        refine z_callV0 (ci := 4) (qk := 0) (As := [.int (iI i1)]) (rest := [.int (iI n1)]) hx hb hml hown hts hK hA hl.1 hP hD hS (c_X4_many l E q z pa sl sv sp pd od pm ty om st wr i1  (by first | omega | exact hz _ _ (by omega) | exact hz | exact ⟨by omega, by omega⟩ | exact hm _ (by omega) (by omega))) gX4_wholes_X4_many rfl ndX4_many ⟨Nat.le_of_ble_eq_true rfl, Nat.le_of_ble_eq_true rfl⟩ rfl rfl rfl rfl rfl (Nat.le_of_ble_eq_true rfl) dX4_wholes_13 ⟨Nat.le_of_ble_eq_true rfl, Nat.le_of_ble_eq_true rfl⟩ (fun x u H locs hpost hP hD hS => ?_)
        subst hpost
        have hP : va_P E.1 vwCl (wM E q z pa sl sv sp pd od pm ty om st wr) H := hP
        have hD : va_D A (wM E q z pa sl sv sp pd od pm ty om st wr) := hD
        refine z_iadd hx hb dX4_wholes_16 ?_
        refine lv_istore_n (lv' := [(1, .int (iI (n1 + (zg z i1 1)))), (2, .int (iI i1)), (0, .ref (q 0))]) hx hb dX4_wholes_17 rfl hl (by decide) rfl (fun ls hl => ?_)
        refine lv_iinc (v := iI (i1 + 1)) (lv' := [(2, .int (iI (i1 + 1))), (1, .int (iI (n1 + (zg z i1 1)))), (0, .ref (q 0))]) hx hb dX4_wholes_18 hl (k := 1) rfl (iI_add _ _) (by decide) rfl (fun ls hl => ?_)
        refine lv_goto (tgt := 4) hx hb dX4_wholes_21 (by decide) ?_
        exact ih4 (6 - (i1 + 1) : Int).toNat (by omega) (n1 + (zg z i1 1)) (i1 + 1) (by omega) (by rw [itr_step (by omega), ← hi4_0]) (by omega) _ _ ls hP hD hS (lv_sub hl [0, 1, 2] rfl)
  exact hloop4 (6 - 0 : Int).toNat 0 0 (by omega) (rfl) (by omega) _ _ ls hP hD hS (lv_sub hl [0, 1, 2] rfl)
