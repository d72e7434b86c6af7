theorem ndX4_trim : yX4_trim.cls = RX4 ∧ yX4_trim.cls ≠ "java/lang/invoke/MethodHandle" ∧ yX4_trim.cls ≠ "java/lang/invoke/VarHandle" ∧ (parseMethodDescriptor yX4_trim.desc).map (fun d => d.parameters.length) = some 1 := by decide +kernel
set_option maxRecDepth 100000 in
set_option maxHeartbeats 4000000 in
theorem c_X4_trim (l : Launch) (E : zE) (q : Nat → Nat) (z pa sl sv sp pd od : Int → Int) (pm ty om st wr : Int) (g : Int) (h0 : 0 ≤ g ∧ g ≤ 5) (h1 : 0 ≤ zg z g 1 ∧ zg z g 1 ≤ 9) (h2 : CZ z) : zFv l E yX4_trim wsX4_trim 3 67 [.ref (q 0), .int (iI g)] (wM E q z pa sl sv sp pd od pm ty om st wr) (wM E q (mTrim z g) pa sl sv sp pd od pm ty om st wr) := by
  have hz := h2
  refine zCv_of (cc := cX4_trim) (maxL := 2) (by decide) rfl (Nat.le_of_ble_eq_true rfl) ?_
  intro p e s m below meth c ls A hx hb hr hts hown hlocks hml hK hA hS hP hD hl
  have hown : s.vm.findClass RX4 = some m.cls := hown
  have hl : lv_has ls 2 [(0, .ref (q 0)), (1, .int (iI g))] := hl
  have hloop0 : ∀ (n : Nat) (z1 : Int → Int) (hmu : zg z1 g 1 = (n : Int)) (hi0_0 : mTrim z1 g = mTrim z g) (hi0_1 : 0 ≤ zg z1 g 1 ∧ zg z1 g 1 ≤ 9) (hi0_2 : CZ z1) (H : Heap) (locs : List Loc) (ls : Array Slot), va_P E.1 vwCl (wM E q z1 pa sl sv sp pd od pm ty om st wr) H → va_D A (wM E q z1 pa sl sv sp pd od pm ty om st wr) → va_S A s.heap H locs → lv_has ls 2 [(0, .ref (q 0)), (1, .int (iI g))] → W p l e (zR 3 67) s m ([.ref (q 0), .int (iI g)] : List Value).toArray below meth c H locs 0 0 (MQ below (zQv E A (S := Unit) (fun _ => True) (fun _ => wM E q (mTrim z g) pa sl sv sp pd od pm ty om st wr)) ([.ref (q 0), .int (iI g)] : List Value).toArray s 0 0 A) (F0 m 0 ls []) := by
    intro n
    induction n using Nat.strongRecOn with
    | ind n ih0 =>
      intro z1 hmu0 hi0_0 hi0_1 hi0_2 H locs ls hP hD hS hl
      have hz := hi0_2
      refine lv_aload_n hx hb dX4_trim_0 rfl (lv_at hl 0 rfl) ?_
      refine lv_iload_n hx hb dX4_trim_1 rfl (lv_at hl 1 rfl) ?_
      refine z_callV0 (ci := 4) (qk := 0) (As := [.int (iI g)]) (rest := []) hx hb hml hown hts hK hA hl.1 hP hD hS (c_X4_many l E q z1 pa sl sv sp pd od pm ty om st wr g  (by first | omega | exact hz _ _ (by omega) | exact hz | exact ⟨by omega, by omega⟩)) gX4_trim_X4_many rfl ndX4_many ⟨Nat.le_of_ble_eq_true rfl, Nat.le_of_ble_eq_true rfl⟩ rfl rfl rfl rfl rfl (Nat.le_of_ble_eq_true rfl) dX4_trim_2 ⟨Nat.le_of_ble_eq_true rfl, Nat.le_of_ble_eq_true rfl⟩ (fun x u H locs hpost hP hD hS => ?_)
      subst hpost
      have hP : va_P E.1 vwCl (wM E q z1 pa sl sv sp pd od pm ty om st wr) H := hP
      have hD : va_D A (wM E q z1 pa sl sv sp pd od pm ty om st wr) := hD
      refine z_if_le (tgt := 39) hx hb dX4_trim_5 (by decide) ⟨by first | omega | exact (hz _ _ (by omega)).1 | exact (hz _ _ (by omega)).2, by first | omega | exact (hz _ _ (by omega)).1 | exact (hz _ _ (by omega)).2⟩ (fun c_5 => ?_) (fun c_5 => ?_)
      · have eqc_z : (mTrim z g) = z1 := by rw [← hi0_0]; first | exact mTrim_0 (by omega) | exact mTrim_stop (by omega) c_20
        have hP : va_P E.1 vwCl (wM E q (mTrim z g) pa sl sv sp pd od pm ty om st wr) H := by rw [eqc_z]; exact hP
        have hD : va_D A (wM E q (mTrim z g) pa sl sv sp pd od pm ty om st wr) := by rw [eqc_z]; exact hD
        exact z_vret hx hb hr hlocks hK hS () (by first | rfl | trivial | exact zb_t' (by omega) | exact zb_f' (by omega) | omega) hP hD dX4_trim_39
      · refine lv_aload_n hx hb dX4_trim_8 rfl (lv_at hl 0 rfl) ?_
        refine lv_iload_n hx hb dX4_trim_9 rfl (lv_at hl 1 rfl) ?_
        refine lv_aload_n hx hb dX4_trim_10 rfl (lv_at hl 0 rfl) ?_
        refine lv_iload_n hx hb dX4_trim_11 rfl (lv_at hl 1 rfl) ?_
        refine z_callV0 (ci := 4) (qk := 0) (As := [.int (iI g)]) (rest := [.int (iI g), .ref (q 0)]) hx hb hml hown hts hK hA hl.1 hP hD hS (c_X4_many l E q z1 pa sl sv sp pd od pm ty om st wr g  (by first | omega | exact hz _ _ (by omega) | exact hz | exact ⟨by omega, by omega⟩)) gX4_trim_X4_many rfl ndX4_many ⟨Nat.le_of_ble_eq_true rfl, Nat.le_of_ble_eq_true rfl⟩ rfl rfl rfl rfl rfl (Nat.le_of_ble_eq_true rfl) dX4_trim_12 ⟨Nat.le_of_ble_eq_true rfl, Nat.le_of_ble_eq_true rfl⟩ (fun x u H locs hpost hP hD hS => ?_)
        subst hpost
        have hP : va_P E.1 vwCl (wM E q z1 pa sl sv sp pd od pm ty om st wr) H := hP
        have hD : va_D A (wM E q z1 pa sl sv sp pd od pm ty om st wr) := hD
        refine lv_iconst (v := iI 1) hx hb dX4_trim_15 (by decide) ?_
        refine z_isub hx hb dX4_trim_16 ?_
        refine z_callV0 (ci := 4) (qk := 0) (As := [.int (iI g), .int (iI ((zg z1 g 1) - 1))]) (rest := []) hx hb hml hown hts hK hA hl.1 hP hD hS (c_X4_isHole l E q z1 pa sl sv sp pd od pm ty om st wr g ((zg z1 g 1) - 1)  (by first | omega | exact hz _ _ (by omega) | exact hz | exact ⟨by omega, by omega⟩) (by first | omega | exact hz _ _ (by omega) | exact hz | exact ⟨by omega, by omega⟩) (by first | omega | exact hz _ _ (by omega) | exact hz | exact ⟨by omega, by omega⟩)) gX4_trim_X4_isHole rfl ndX4_isHole ⟨Nat.le_of_ble_eq_true rfl, Nat.le_of_ble_eq_true rfl⟩ rfl rfl rfl rfl rfl (Nat.le_of_ble_eq_true rfl) dX4_trim_17 ⟨Nat.le_of_ble_eq_true rfl, Nat.le_of_ble_eq_true rfl⟩ (fun x u H locs hpost hP hD hS => ?_)
        subst hpost
        have hP : va_P E.1 vwCl (wM E q z1 pa sl sv sp pd od pm ty om st wr) H := hP
        have hD : va_D A (wM E q z1 pa sl sv sp pd od pm ty om st wr) := hD
        refine z_ifb_eq (tgt := 39) hx hb dX4_trim_20 (by decide) (fun c_20 => ?_) (fun c_20 => ?_)
        · have eqc_z : (mTrim z g) = z1 := by rw [← hi0_0]; first | exact mTrim_0 (by omega) | exact mTrim_stop (by omega) c_20
          have hP : va_P E.1 vwCl (wM E q (mTrim z g) pa sl sv sp pd od pm ty om st wr) H := by rw [eqc_z]; exact hP
          have hD : va_D A (wM E q (mTrim z g) pa sl sv sp pd od pm ty om st wr) := by rw [eqc_z]; exact hD
          exact z_vret hx hb hr hlocks hK hS () (by first | rfl | trivial | exact zb_t' (by omega) | exact zb_f' (by omega) | omega) hP hD dX4_trim_39
        · refine lv_aload_n hx hb dX4_trim_23 rfl (lv_at hl 0 rfl) ?_
          refine lv_iload_n hx hb dX4_trim_24 rfl (lv_at hl 1 rfl) ?_
          refine lv_iconst (v := iI 1) hx hb dX4_trim_25 (by decide) ?_
          refine lv_aload_n hx hb dX4_trim_26 rfl (lv_at hl 0 rfl) ?_
          refine lv_iload_n hx hb dX4_trim_27 rfl (lv_at hl 1 rfl) ?_
          refine z_callV0 (ci := 4) (qk := 0) (As := [.int (iI g)]) (rest := [.int (iI 1), .int (iI g), .ref (q 0)]) hx hb hml hown hts hK hA hl.1 hP hD hS (c_X4_many l E q z1 pa sl sv sp pd od pm ty om st wr g  (by first | omega | exact hz _ _ (by omega) | exact hz | exact ⟨by omega, by omega⟩)) gX4_trim_X4_many rfl ndX4_many ⟨Nat.le_of_ble_eq_true rfl, Nat.le_of_ble_eq_true rfl⟩ rfl rfl rfl rfl rfl (Nat.le_of_ble_eq_true rfl) dX4_trim_28 ⟨Nat.le_of_ble_eq_true rfl, Nat.le_of_ble_eq_true rfl⟩ (fun x u H locs hpost hP hD hS => ?_)
          subst hpost
          have hP : va_P E.1 vwCl (wM E q z1 pa sl sv sp pd od pm ty om st wr) H := hP
          have hD : va_D A (wM E q z1 pa sl sv sp pd od pm ty om st wr) := hD
          refine lv_iconst (v := iI 1) hx hb dX4_trim_31 (by decide) ?_
          refine z_isub hx hb dX4_trim_32 ?_
          refine z_callVv0 (ci := 4) (qk := 0) (As := [.int (iI g), .int (iI 1), .int (iI ((zg z1 g 1) - 1))]) (rest := []) hx hb hml hown hts hK hA hl.1 hP hD hS (c_X4_lay l E q z1 pa sl sv sp pd od pm ty om st wr g 1 ((zg z1 g 1) - 1)  (by first | omega | exact hz _ _ (by omega) | exact hz | exact ⟨by omega, by omega⟩) (by first | omega | exact hz _ _ (by omega) | exact hz | exact ⟨by omega, by omega⟩)) gX4_trim_X4_lay rfl ndX4_lay ⟨Nat.le_of_ble_eq_true rfl, Nat.le_of_ble_eq_true rfl⟩ rfl rfl rfl rfl rfl (Nat.le_of_ble_eq_true rfl) dX4_trim_33 ⟨Nat.le_of_ble_eq_true rfl, Nat.le_of_ble_eq_true rfl⟩ (fun u H locs hpost hP hD hS => ?_)
          have hP : va_P E.1 vwCl (wM E q (zs z1 g 1 ((zg z1 g 1) - 1)) pa sl sv sp pd od pm ty om st wr) H := hP
          have hD : va_D A (wM E q (zs z1 g 1 ((zg z1 g 1) - 1)) pa sl sv sp pd od pm ty om st wr) := hD
          refine lv_goto (tgt := 0) hx hb dX4_trim_36 (by decide) ?_
          have hm : zg (zs z1 g 1 ((zg z1 g 1) - 1)) g 1 = zg z1 g 1 - 1 := zg_zs _ _ _ _
          exact ih0 (zg (zs z1 g 1 ((zg z1 g 1) - 1)) g 1 : Int).toNat (by omega) (zs z1 g 1 ((zg z1 g 1) - 1)) (by omega) (by rw [← hi0_0]; exact mTrim_step (by omega) c_20) (by omega) (CZ_zs hz (by omega) (by omega) (fun _ => ⟨by omega, by omega⟩)) _ _ ls hP hD hS (lv_sub hl [0, 1] rfl)
  exact hloop0 (zg z g 1 : Int).toNat z (by omega) (rfl) (by omega) (hz) _ _ ls hP hD hS (lv_sub hl [0, 1] rfl)

theorem ndX4_roll : yX4_roll.cls = RX4 ∧ yX4_roll.cls ≠ "java/lang/invoke/MethodHandle" ∧ yX4_roll.cls ≠ "java/lang/invoke/VarHandle" ∧ (parseMethodDescriptor yX4_roll.desc).map (fun d => d.parameters.length) = some 1 := by decide +kernel
set_option maxRecDepth 100000 in
set_option maxHeartbeats 4000000 in
theorem c_X4_roll (l : Launch) (E : zE) (q : Nat → Nat) (z pa sl sv sp pd od : Int → Int) (pm ty om st wr : Int) (g : Int) (h0 : 0 ≤ g ∧ g ≤ 5) (h1 : 0 ≤ zg z g 1 ∧ zg z g 1 ≤ 9) (h2 : 1 ≤ zg z g 0 ∧ zg z g 0 ≤ 8) (h3 : CZ z) : zFv l E yX4_roll wsX4_roll 4 88 [.ref (q 0), .int (iI g)] (wM E q z pa sl sv sp pd od pm ty om st wr) (wM E q (mRoll z g) pa sl sv sp pd od pm ty om st wr) := by
  have hz := h3
  refine zCv_of (cc := cX4_roll) (maxL := 2) (by decide) rfl (Nat.le_of_ble_eq_true rfl) ?_
  intro p e s m below meth c ls A hx hb hr hts hown hlocks hml hK hA hS hP hD hl
  have hown : s.vm.findClass RX4 = some m.cls := hown
  have hl : lv_has ls 2 [(0, .ref (q 0)), (1, .int (iI g))] := hl
  have hloop0 : ∀ (n : Nat) (z1 : Int → Int) (hmu : zg z1 g 1 = (n : Int)) (hi0_0 : ∃ k : Nat, zg z1 g 1 - zg z1 g 0 ≤ k ∧ mRollN k z1 g = mRoll z g) (hi0_1 : 0 ≤ zg z1 g 1 ∧ zg z1 g 1 ≤ 9) (hi0_2 : 1 ≤ zg z1 g 0 ∧ zg z1 g 0 ≤ 8) (hi0_3 : CZ z1) (H : Heap) (locs : List Loc) (ls : Array Slot), va_P E.1 vwCl (wM E q z1 pa sl sv sp pd od pm ty om st wr) H → va_D A (wM E q z1 pa sl sv sp pd od pm ty om st wr) → va_S A s.heap H locs → lv_has ls 2 [(0, .ref (q 0)), (1, .int (iI g))] → W p l e (zR 4 88) s m ([.ref (q 0), .int (iI g)] : List Value).toArray below meth c H locs 0 0 (MQ below (zQv E A (S := Unit) (fun _ => True) (fun _ => wM E q (mRoll z g) pa sl sv sp pd od pm ty om st wr)) ([.ref (q 0), .int (iI g)] : List Value).toArray s 0 0 A) (F0 m 0 ls []) := by
    intro n
    induction n using Nat.strongRecOn with
    | ind n ih0 =>
      intro z1 hmu0 hi0_0 hi0_1 hi0_2 hi0_3 H locs ls hP hD hS hl
      have hz := hi0_3
      obtain ⟨k, hk, hi0_0⟩ := hi0_0
      refine lv_aload_n hx hb dX4_roll_0 rfl (lv_at hl 0 rfl) ?_
      refine lv_iload_n hx hb dX4_roll_1 rfl (lv_at hl 1 rfl) ?_
      refine z_callV0 (ci := 4) (qk := 0) (As := [.int (iI g)]) (rest := []) hx hb hml hown hts hK hA hl.1 hP hD hS (c_X4_many l E q z1 pa sl sv sp pd od pm ty om st wr g  (by first | omega | exact hz _ _ (by omega) | exact hz | exact ⟨by omega, by omega⟩)) gX4_roll_X4_many rfl ndX4_many ⟨Nat.le_of_ble_eq_true rfl, Nat.le_of_ble_eq_true rfl⟩ rfl rfl rfl rfl rfl (Nat.le_of_ble_eq_true rfl) dX4_roll_2 ⟨Nat.le_of_ble_eq_true rfl, Nat.le_of_ble_eq_true rfl⟩ (fun x u H locs hpost hP hD hS => ?_)
      subst hpost
      have hP : va_P E.1 vwCl (wM E q z1 pa sl sv sp pd od pm ty om st wr) H := hP
      have hD : va_D A (wM E q z1 pa sl sv sp pd od pm ty om st wr) := hD
      refine lv_aload_n hx hb dX4_roll_5 rfl (lv_at hl 0 rfl) ?_
      refine lv_iload_n hx hb dX4_roll_6 rfl (lv_at hl 1 rfl) ?_
      refine lv_iconst (v := iI 0) hx hb dX4_roll_7 (by decide) ?_
      refine z_callV0 (ci := 4) (qk := 0) (As := [.int (iI g), .int (iI 0)]) (rest := [.int (iI (zg z1 g 1))]) hx hb hml hown hts hK hA hl.1 hP hD hS (c_X4_of l E q z1 pa sl sv sp pd od pm ty om st wr g 0  (by first | omega | exact hz _ _ (by omega) | exact hz | exact ⟨by omega, by omega⟩) (by first | omega | exact hz _ _ (by omega) | exact hz | exact ⟨by omega, by omega⟩)) gX4_roll_X4_of rfl ndX4_of ⟨Nat.le_of_ble_eq_true rfl, Nat.le_of_ble_eq_true rfl⟩ rfl rfl rfl rfl rfl (Nat.le_of_ble_eq_true rfl) dX4_roll_8 ⟨Nat.le_of_ble_eq_true rfl, Nat.le_of_ble_eq_true rfl⟩ (fun x u H locs hpost hP hD hS => ?_)
      subst hpost
      have hP : va_P E.1 vwCl (wM E q z1 pa sl sv sp pd od pm ty om st wr) H := hP
      have hD : va_D A (wM E q z1 pa sl sv sp pd od pm ty om st wr) := hD
      refine z_icmp_le (tgt := 63) hx hb dX4_roll_11 (by decide) ⟨by first | omega | exact (hz _ _ (by omega)).1 | exact (hz _ _ (by omega)).2, by first | omega | exact (hz _ _ (by omega)).1 | exact (hz _ _ (by omega)).2⟩ ⟨by first | omega | exact (hz _ _ (by omega)).1 | exact (hz _ _ (by omega)).2, by first | omega | exact (hz _ _ (by omega)).1 | exact (hz _ _ (by omega)).2⟩ (fun c_11 => ?_) (fun c_11 => ?_)
      · refine lv_aload_n hx hb dX4_roll_63 rfl (lv_at hl 0 rfl) ?_
        refine lv_iload_n hx hb dX4_roll_64 rfl (lv_at hl 1 rfl) ?_
        refine z_callVv0 (ci := 4) (qk := 0) (As := [.int (iI g)]) (rest := []) hx hb hml hown hts hK hA hl.1 hP hD hS (c_X4_trim l E q z1 pa sl sv sp pd od pm ty om st wr g  (by first | omega | exact hz _ _ (by omega) | exact hz | exact ⟨by omega, by omega⟩) (by first | omega | exact hz _ _ (by omega) | exact hz | exact ⟨by omega, by omega⟩) (by first | omega | exact hz _ _ (by omega) | exact hz | exact ⟨by omega, by omega⟩)) gX4_roll_X4_trim rfl ndX4_trim ⟨Nat.le_of_ble_eq_true rfl, Nat.le_of_ble_eq_true rfl⟩ rfl rfl rfl rfl rfl (Nat.le_of_ble_eq_true rfl) dX4_roll_65 ⟨Nat.le_of_ble_eq_true rfl, Nat.le_of_ble_eq_true rfl⟩ (fun u H locs hpost hP hD hS => ?_)
        have hP : va_P E.1 vwCl (wM E q (mTrim z1 g) pa sl sv sp pd od pm ty om st wr) H := hP
        have hD : va_D A (wM E q (mTrim z1 g) pa sl sv sp pd od pm ty om st wr) := hD
        have eqc_z : (mRoll z g) = mTrim z1 g := by rw [← hi0_0]; exact mRollN_stop c_11 k
        have hP : va_P E.1 vwCl (wM E q (mRoll z g) pa sl sv sp pd od pm ty om st wr) H := by rw [eqc_z]; exact hP
        have hD : va_D A (wM E q (mRoll z g) pa sl sv sp pd od pm ty om st wr) := by rw [eqc_z]; exact hD
        exact z_vret hx hb hr hlocks hK hS () (by first | rfl | trivial | exact zb_t' (by omega) | exact zb_f' (by omega) | omega) hP hD dX4_roll_68
      · refine lv_aload_n hx hb dX4_roll_14 rfl (lv_at hl 0 rfl) ?_
        refine lv_iload_n hx hb dX4_roll_15 rfl (lv_at hl 1 rfl) ?_
        refine lv_iconst (v := iI 3) hx hb dX4_roll_16 (by decide) ?_
        refine lv_aload_n hx hb dX4_roll_17 rfl (lv_at hl 0 rfl) ?_
        refine lv_iload_n hx hb dX4_roll_18 rfl (lv_at hl 1 rfl) ?_
        refine lv_iconst (v := iI 3) hx hb dX4_roll_19 (by decide) ?_
        refine z_callV0 (ci := 4) (qk := 0) (As := [.int (iI g), .int (iI 3)]) (rest := [.int (iI 3), .int (iI g), .ref (q 0)]) hx hb hml hown hts hK hA hl.1 hP hD hS (c_X4_of l E q z1 pa sl sv sp pd od pm ty om st wr g 3  (by first | omega | exact hz _ _ (by omega) | exact hz | exact ⟨by omega, by omega⟩) (by first | omega | exact hz _ _ (by omega) | exact hz | exact ⟨by omega, by omega⟩)) gX4_roll_X4_of rfl ndX4_of ⟨Nat.le_of_ble_eq_true rfl, Nat.le_of_ble_eq_true rfl⟩ rfl rfl rfl rfl rfl (Nat.le_of_ble_eq_true rfl) dX4_roll_20 ⟨Nat.le_of_ble_eq_true rfl, Nat.le_of_ble_eq_true rfl⟩ (fun x u H locs hpost hP hD hS => ?_)
        subst hpost
        have hP : va_P E.1 vwCl (wM E q z1 pa sl sv sp pd od pm ty om st wr) H := hP
        have hD : va_D A (wM E q z1 pa sl sv sp pd od pm ty om st wr) := hD
        refine lv_aload_n hx hb dX4_roll_23 rfl (lv_at hl 0 rfl) ?_
        refine lv_iload_n hx hb dX4_roll_24 rfl (lv_at hl 1 rfl) ?_
        refine lv_aload_n hx hb dX4_roll_25 rfl (lv_at hl 0 rfl) ?_
        refine lv_iload_n hx hb dX4_roll_26 rfl (lv_at hl 1 rfl) ?_
        refine z_callV0 (ci := 4) (qk := 0) (As := [.int (iI g)]) (rest := [.int (iI g), .ref (q 0), .int (iI (zg z1 g 3)), .int (iI 3), .int (iI g), .ref (q 0)]) hx hb hml hown hts hK hA hl.1 hP hD hS (c_X4_many l E q z1 pa sl sv sp pd od pm ty om st wr g  (by first | omega | exact hz _ _ (by omega) | exact hz | exact ⟨by omega, by omega⟩)) gX4_roll_X4_many rfl ndX4_many ⟨Nat.le_of_ble_eq_true rfl, Nat.le_of_ble_eq_true rfl⟩ rfl rfl rfl rfl rfl (Nat.le_of_ble_eq_true rfl) dX4_roll_27 ⟨Nat.le_of_ble_eq_true rfl, Nat.le_of_ble_eq_true rfl⟩ (fun x u H locs hpost hP hD hS => ?_)
        subst hpost
        have hP : va_P E.1 vwCl (wM E q z1 pa sl sv sp pd od pm ty om st wr) H := hP
        have hD : va_D A (wM E q z1 pa sl sv sp pd od pm ty om st wr) := hD
        refine lv_iconst (v := iI 1) hx hb dX4_roll_30 (by decide) ?_
        refine z_isub hx hb dX4_roll_31 ?_
        refine z_callV0 (ci := 4) (qk := 0) (As := [.int (iI g), .int (iI ((zg z1 g 1) - 1))]) (rest := [.int (iI (zg z1 g 3)), .int (iI 3), .int (iI g), .ref (q 0)]) hx hb hml hown hts hK hA hl.1 hP hD hS (c_X4_isHole l E q z1 pa sl sv sp pd od pm ty om st wr g ((zg z1 g 1) - 1)  (by first | omega | exact hz _ _ (by omega) | exact hz | exact ⟨by omega, by omega⟩) (by first | omega | exact hz _ _ (by omega) | exact hz | exact ⟨by omega, by omega⟩) (by first | omega | exact hz _ _ (by omega) | exact hz | exact ⟨by omega, by omega⟩)) gX4_roll_X4_isHole rfl ndX4_isHole ⟨Nat.le_of_ble_eq_true rfl, Nat.le_of_ble_eq_true rfl⟩ rfl rfl rfl rfl rfl (Nat.le_of_ble_eq_true rfl) dX4_roll_32 ⟨Nat.le_of_ble_eq_true rfl, Nat.le_of_ble_eq_true rfl⟩ (fun x u H locs hpost hP hD hS => ?_)
        subst hpost
        have hP : va_P E.1 vwCl (wM E q z1 pa sl sv sp pd od pm ty om st wr) H := hP
        have hD : va_D A (wM E q z1 pa sl sv sp pd od pm ty om st wr) := hD
        refine z_ifb_eq (tgt := 42) hx hb dX4_roll_35 (by decide) (fun c_35 => ?_) (fun c_35 => ?_)
        · refine lv_iconst (v := iI 1) hx hb dX4_roll_42 (by decide) ?_
          refine z_iadd hx hb dX4_roll_43 ?_
          have hz1 := hz
          refine z_callVv0 (ci := 4) (qk := 0) (As := [.int (iI g), .int (iI 3), .int (iI ((zg z1 g 3) + 1))]) (rest := []) hx hb hml hown hts hK hA hl.1 hP hD hS (c_X4_lay l E q z1 pa sl sv sp pd od pm ty om st wr g 3 ((zg z1 g 3) + 1)  (by first | omega | exact hz _ _ (by omega) | exact hz | exact ⟨by omega, by omega⟩) (by first | omega | exact hz _ _ (by omega) | exact hz | exact ⟨by omega, by omega⟩)) gX4_roll_X4_lay rfl ndX4_lay ⟨Nat.le_of_ble_eq_true rfl, Nat.le_of_ble_eq_true rfl⟩ rfl rfl rfl rfl rfl (Nat.le_of_ble_eq_true rfl) dX4_roll_44 ⟨Nat.le_of_ble_eq_true rfl, Nat.le_of_ble_eq_true rfl⟩ (fun u H locs hpost hP hD hS => ?_)
          have hP : va_P E.1 vwCl (wM E q (zs z1 g 3 ((zg z1 g 3) + 1)) pa sl sv sp pd od pm ty om st wr) H := hP
          have hD : va_D A (wM E q (zs z1 g 3 ((zg z1 g 3) + 1)) pa sl sv sp pd od pm ty om st wr) := hD
          refine lv_aload_n hx hb dX4_roll_47 rfl (lv_at hl 0 rfl) ?_
          refine lv_iload_n hx hb dX4_roll_48 rfl (lv_at hl 1 rfl) ?_
          refine lv_iconst (v := iI 1) hx hb dX4_roll_49 (by decide) ?_
          refine lv_aload_n hx hb dX4_roll_50 rfl (lv_at hl 0 rfl) ?_
          refine lv_iload_n hx hb dX4_roll_51 rfl (lv_at hl 1 rfl) ?_
          refine z_callV0 (ci := 4) (qk := 0) (As := [.int (iI g)]) (rest := [.int (iI 1), .int (iI g), .ref (q 0)]) hx hb hml hown hts hK hA hl.1 hP hD hS (c_X4_many l E q (zs z1 g 3 ((zg z1 g 3) + 1)) pa sl sv sp pd od pm ty om st wr g  (by first | omega | exact hz _ _ (by omega) | exact hz | exact ⟨by omega, by omega⟩)) gX4_roll_X4_many rfl ndX4_many ⟨Nat.le_of_ble_eq_true rfl, Nat.le_of_ble_eq_true rfl⟩ rfl rfl rfl rfl rfl (Nat.le_of_ble_eq_true rfl) dX4_roll_52 ⟨Nat.le_of_ble_eq_true rfl, Nat.le_of_ble_eq_true rfl⟩ (fun x u H locs hpost hP hD hS => ?_)
          subst hpost
          have hP : va_P E.1 vwCl (wM E q (zs z1 g 3 ((zg z1 g 3) + 1)) pa sl sv sp pd od pm ty om st wr) H := hP
          have hD : va_D A (wM E q (zs z1 g 3 ((zg z1 g 3) + 1)) pa sl sv sp pd od pm ty om st wr) := hD
          refine lv_iconst (v := iI 1) hx hb dX4_roll_55 (by decide) ?_
          refine z_isub hx hb dX4_roll_56 ?_
          refine z_callVv0 (ci := 4) (qk := 0) (As := [.int (iI g), .int (iI 1), .int (iI ((zg (zs z1 g 3 ((zg z1 g 3) + 1)) g 1) - 1))]) (rest := []) hx hb hml hown hts hK hA hl.1 hP hD hS (c_X4_lay l E q (zs z1 g 3 ((zg z1 g 3) + 1)) pa sl sv sp pd od pm ty om st wr g 1 ((zg (zs z1 g 3 ((zg z1 g 3) + 1)) g 1) - 1)  (by first | omega | exact hz _ _ (by omega) | exact hz | exact ⟨by omega, by omega⟩) (by first | omega | exact hz _ _ (by omega) | exact hz | exact ⟨by omega, by omega⟩)) gX4_roll_X4_lay rfl ndX4_lay ⟨Nat.le_of_ble_eq_true rfl, Nat.le_of_ble_eq_true rfl⟩ rfl rfl rfl rfl rfl (Nat.le_of_ble_eq_true rfl) dX4_roll_57 ⟨Nat.le_of_ble_eq_true rfl, Nat.le_of_ble_eq_true rfl⟩ (fun u H locs hpost hP hD hS => ?_)
          have hP : va_P E.1 vwCl (wM E q (zs (zs z1 g 3 ((zg z1 g 3) + 1)) g 1 ((zg (zs z1 g 3 ((zg z1 g 3) + 1)) g 1) - 1)) pa sl sv sp pd od pm ty om st wr) H := hP
          have hD : va_D A (wM E q (zs (zs z1 g 3 ((zg z1 g 3) + 1)) g 1 ((zg (zs z1 g 3 ((zg z1 g 3) + 1)) g 1) - 1)) pa sl sv sp pd od pm ty om st wr) := hD
          refine lv_goto (tgt := 0) hx hb dX4_roll_60 (by decide) ?_
          have hm : zg (zs (zs z1 g 3 ((zg z1 g 3) + 1)) g 1 ((zg (zs z1 g 3 ((zg z1 g 3) + 1)) g 1) - 1)) g 1 = zg z1 g 1 - 1 := by rw [zg_zs, zg_zs_ne (by omega)]
          have hm0 : zg (zs (zs z1 g 3 ((zg z1 g 3) + 1)) g 1 ((zg (zs z1 g 3 ((zg z1 g 3) + 1)) g 1) - 1)) g 0 = zg z1 g 0 := by rw [zg_zs_ne (by omega), zg_zs_ne (by omega)]
          obtain ⟨k, rfl⟩ : ∃ j : Nat, k = j + 1 := ⟨k - 1, by omega⟩
          exact ih0 (zg (zs (zs z1 g 3 ((zg z1 g 3) + 1)) g 1 ((zg (zs z1 g 3 ((zg z1 g 3) + 1)) g 1) - 1)) g 1 : Int).toNat (by omega) (zs (zs z1 g 3 ((zg z1 g 3) + 1)) g 1 ((zg (zs z1 g 3 ((zg z1 g 3) + 1)) g 1) - 1)) (by omega) (⟨k, by omega, by rw [← hi0_0, mRollN_step c_11, zg_zs_ne (by omega)]; first | rw [if_pos c_35] | rw [if_neg c_35]⟩) (by omega) (by omega) (CZ_zs (CZ_zs hz (by omega) (by omega) (fun q => absurd q (by omega))) (by omega) (by omega) (fun _ => by rw [zg_zs_ne (by omega)]; exact ⟨by omega, by omega⟩)) _ _ ls hP hD hS (lv_sub hl [0, 1] rfl)
        · refine lv_iconst (v := iI 0) hx hb dX4_roll_38 (by decide) ?_
          refine lv_goto (tgt := 43) hx hb dX4_roll_39 (by decide) ?_
          refine z_iadd hx hb dX4_roll_43 ?_
          have hz1 := hz
          refine z_callVv0 (ci := 4) (qk := 0) (As := [.int (iI g), .int (iI 3), .int (iI ((zg z1 g 3) + 0))]) (rest := []) hx hb hml hown hts hK hA hl.1 hP hD hS (c_X4_lay l E q z1 pa sl sv sp pd od pm ty om st wr g 3 ((zg z1 g 3) + 0)  (by first | omega | exact hz _ _ (by omega) | exact hz | exact ⟨by omega, by omega⟩) (by first | omega | exact hz _ _ (by omega) | exact hz | exact ⟨by omega, by omega⟩)) gX4_roll_X4_lay rfl ndX4_lay ⟨Nat.le_of_ble_eq_true rfl, Nat.le_of_ble_eq_true rfl⟩ rfl rfl rfl rfl rfl (Nat.le_of_ble_eq_true rfl) dX4_roll_44 ⟨Nat.le_of_ble_eq_true rfl, Nat.le_of_ble_eq_true rfl⟩ (fun u H locs hpost hP hD hS => ?_)
          have hP : va_P E.1 vwCl (wM E q (zs z1 g 3 ((zg z1 g 3) + 0)) pa sl sv sp pd od pm ty om st wr) H := hP
          have hD : va_D A (wM E q (zs z1 g 3 ((zg z1 g 3) + 0)) pa sl sv sp pd od pm ty om st wr) := hD
          refine lv_aload_n hx hb dX4_roll_47 rfl (lv_at hl 0 rfl) ?_
          refine lv_iload_n hx hb dX4_roll_48 rfl (lv_at hl 1 rfl) ?_
          refine lv_iconst (v := iI 1) hx hb dX4_roll_49 (by decide) ?_
          refine lv_aload_n hx hb dX4_roll_50 rfl (lv_at hl 0 rfl) ?_
          refine lv_iload_n hx hb dX4_roll_51 rfl (lv_at hl 1 rfl) ?_
          refine z_callV0 (ci := 4) (qk := 0) (As := [.int (iI g)]) (rest := [.int (iI 1), .int (iI g), .ref (q 0)]) hx hb hml hown hts hK hA hl.1 hP hD hS (c_X4_many l E q (zs z1 g 3 ((zg z1 g 3) + 0)) pa sl sv sp pd od pm ty om st wr g  (by first | omega | exact hz _ _ (by omega) | exact hz | exact ⟨by omega, by omega⟩)) gX4_roll_X4_many rfl ndX4_many ⟨Nat.le_of_ble_eq_true rfl, Nat.le_of_ble_eq_true rfl⟩ rfl rfl rfl rfl rfl (Nat.le_of_ble_eq_true rfl) dX4_roll_52 ⟨Nat.le_of_ble_eq_true rfl, Nat.le_of_ble_eq_true rfl⟩ (fun x u H locs hpost hP hD hS => ?_)
          subst hpost
          have hP : va_P E.1 vwCl (wM E q (zs z1 g 3 ((zg z1 g 3) + 0)) pa sl sv sp pd od pm ty om st wr) H := hP
          have hD : va_D A (wM E q (zs z1 g 3 ((zg z1 g 3) + 0)) pa sl sv sp pd od pm ty om st wr) := hD
          refine lv_iconst (v := iI 1) hx hb dX4_roll_55 (by decide) ?_
          refine z_isub hx hb dX4_roll_56 ?_
          refine z_callVv0 (ci := 4) (qk := 0) (As := [.int (iI g), .int (iI 1), .int (iI ((zg (zs z1 g 3 ((zg z1 g 3) + 0)) g 1) - 1))]) (rest := []) hx hb hml hown hts hK hA hl.1 hP hD hS (c_X4_lay l E q (zs z1 g 3 ((zg z1 g 3) + 0)) pa sl sv sp pd od pm ty om st wr g 1 ((zg (zs z1 g 3 ((zg z1 g 3) + 0)) g 1) - 1)  (by first | omega | exact hz _ _ (by omega) | exact hz | exact ⟨by omega, by omega⟩) (by first | omega | exact hz _ _ (by omega) | exact hz | exact ⟨by omega, by omega⟩)) gX4_roll_X4_lay rfl ndX4_lay ⟨Nat.le_of_ble_eq_true rfl, Nat.le_of_ble_eq_true rfl⟩ rfl rfl rfl rfl rfl (Nat.le_of_ble_eq_true rfl) dX4_roll_57 ⟨Nat.le_of_ble_eq_true rfl, Nat.le_of_ble_eq_true rfl⟩ (fun u H locs hpost hP hD hS => ?_)
          have hP : va_P E.1 vwCl (wM E q (zs (zs z1 g 3 ((zg z1 g 3) + 0)) g 1 ((zg (zs z1 g 3 ((zg z1 g 3) + 0)) g 1) - 1)) pa sl sv sp pd od pm ty om st wr) H := hP
          have hD : va_D A (wM E q (zs (zs z1 g 3 ((zg z1 g 3) + 0)) g 1 ((zg (zs z1 g 3 ((zg z1 g 3) + 0)) g 1) - 1)) pa sl sv sp pd od pm ty om st wr) := hD
          refine lv_goto (tgt := 0) hx hb dX4_roll_60 (by decide) ?_
          have hm : zg (zs (zs z1 g 3 ((zg z1 g 3) + 0)) g 1 ((zg (zs z1 g 3 ((zg z1 g 3) + 0)) g 1) - 1)) g 1 = zg z1 g 1 - 1 := by rw [zg_zs, zg_zs_ne (by omega)]
          have hm0 : zg (zs (zs z1 g 3 ((zg z1 g 3) + 0)) g 1 ((zg (zs z1 g 3 ((zg z1 g 3) + 0)) g 1) - 1)) g 0 = zg z1 g 0 := by rw [zg_zs_ne (by omega), zg_zs_ne (by omega)]
          obtain ⟨k, rfl⟩ : ∃ j : Nat, k = j + 1 := ⟨k - 1, by omega⟩
          exact ih0 (zg (zs (zs z1 g 3 ((zg z1 g 3) + 0)) g 1 ((zg (zs z1 g 3 ((zg z1 g 3) + 0)) g 1) - 1)) g 1 : Int).toNat (by omega) (zs (zs z1 g 3 ((zg z1 g 3) + 0)) g 1 ((zg (zs z1 g 3 ((zg z1 g 3) + 0)) g 1) - 1)) (by omega) (⟨k, by omega, by rw [← hi0_0, mRollN_step c_11, zg_zs_ne (by omega)]; first | rw [if_pos c_35] | rw [if_neg c_35]⟩) (by omega) (by omega) (CZ_zs (CZ_zs hz (by omega) (by omega) (fun q => absurd q (by omega))) (by omega) (by omega) (fun _ => by rw [zg_zs_ne (by omega)]; exact ⟨by omega, by omega⟩)) _ _ ls hP hD hS (lv_sub hl [0, 1] rfl)
  exact hloop0 (zg z g 1 : Int).toNat z (by omega) (⟨9, by omega, rfl⟩) (by omega) (by omega) (hz) _ _ ls hP hD hS (lv_sub hl [0, 1] rfl)

theorem ndX4_numberBehind : yX4_numberBehind.cls = RX4 ∧ yX4_numberBehind.cls ≠ "java/lang/invoke/MethodHandle" ∧ yX4_numberBehind.cls ≠ "java/lang/invoke/VarHandle" ∧ (parseMethodDescriptor yX4_numberBehind.desc).map (fun d => d.parameters.length) = some 1 := by decide +kernel
set_option maxRecDepth 100000 in
set_option maxHeartbeats 4000000 in
theorem c_X4_numberBehind (l : Launch) (E : zE) (v : Int) (h0 : 0 ≤ v ∧ v < 2147483648) : zF l E yX4_numberBehind wsX4_numberBehind 0 0 [.int (iI v)] ([]) (v % 99 + 1) ([]) := by
  refine zC_of (cc := cX4_numberBehind) (maxL := 1) (by decide) rfl (Nat.le_of_ble_eq_true rfl) ?_
  intro p e s m below meth c ls A hx hb hr hts hown hlocks hml hK hA hS hP hD hl
  have hown : s.vm.findClass RX4 = some m.cls := hown
  have hl : lv_has ls 1 [(0, .int (iI v))] := hl
  refine lv_iload_n hx hb dX4_numberBehind_0 rfl (lv_at hl 0 rfl) ?_
  refine lv_bipush (v := iI 99) hx hb dX4_numberBehind_1 (by decide) ?_
  refine z_irem hx hb dX4_numberBehind_3 (by omega) (by omega) (by omega) (by omega) ?_
  refine lv_iconst (v := iI 1) hx hb dX4_numberBehind_4 (by decide) ?_
  refine z_iadd hx hb dX4_numberBehind_5 ?_
  exact z_iret hx hb hr hlocks hK hS () (by first | rfl | trivial | exact zb_t' (by omega) | exact zb_f' (by omega) | omega) hP hD dX4_numberBehind_6

theorem ndX4_isName : yX4_isName.cls = RX4 ∧ yX4_isName.cls ≠ "java/lang/invoke/MethodHandle" ∧ yX4_isName.cls ≠ "java/lang/invoke/VarHandle" ∧ (parseMethodDescriptor yX4_isName.desc).map (fun d => d.parameters.length) = some 1 := by decide +kernel
set_option maxRecDepth 100000 in
set_option maxHeartbeats 4000000 in
theorem c_X4_isName (l : Launch) (E : zE) (n : Int) (h0 : rg n) : zF l E yX4_isName wsX4_isName 1 22 [.int (iI n)] ([]) (zb (-7 ≤ n ∧ n ≤ 1)) ([]) := by
  refine zC_of (cc := cX4_isName) (maxL := 1) (by decide) rfl (Nat.le_of_ble_eq_true rfl) ?_
  intro p e s m below meth c ls A hx hb hr hts hown hlocks hml hK hA hS hP hD hl
  have hown : s.vm.findClass RX4 = some m.cls := hown
  have hl : lv_has ls 1 [(0, .int (iI n))] := hl
  refine lv_iload_n hx hb dX4_isName_0 rfl (lv_at hl 0 rfl) ?_
  refine lv_bipush (v := iI (-7)) hx hb dX4_isName_1 (by decide) ?_
  refine lv_iconst (v := iI 1) hx hb dX4_isName_3 (by decide) ?_
  refine z_callS0 (As := [.int (iI n), .int (iI (-7)), .int (iI 1)]) (rest := []) hx hb hml hown hts hK hA hl.1 hP hD hS (c_X4_in l E  n (-7) 1  (by first | omega | exact hz _ _ (by omega) | exact hz | exact ⟨by omega, by omega⟩) (by first | omega | exact hz _ _ (by omega) | exact hz | exact ⟨by omega, by omega⟩) (by first | omega | exact hz _ _ (by omega) | exact hz | exact ⟨by omega, by omega⟩)) gX4_isName_X4_in rfl ndX4_in ⟨Nat.le_of_ble_eq_true rfl, Nat.le_of_ble_eq_true rfl⟩ rfl rfl (Nat.le_of_ble_eq_true rfl) dX4_isName_4 ⟨Nat.le_of_ble_eq_true rfl, Nat.le_of_ble_eq_true rfl⟩ (fun x H locs hpost hP hD hS => ?_)
  subst hpost
  exact z_zret hx hb hr hlocks hK hS zb_01 () (by first | rfl | trivial | exact zb_t' (by omega) | exact zb_f' (by omega) | omega) hP hD dX4_isName_7

theorem ndX4_markOf : yX4_markOf.cls = RX4 ∧ yX4_markOf.cls ≠ "java/lang/invoke/MethodHandle" ∧ yX4_markOf.cls ≠ "java/lang/invoke/VarHandle" ∧ (parseMethodDescriptor yX4_markOf.desc).map (fun d => d.parameters.length) = some 2 := by decide +kernel
set_option maxRecDepth 100000 in
set_option maxHeartbeats 4000000 in
theorem c_X4_markOf (l : Launch) (E : zE) (q : Nat → Nat) (z pa sl sv sp pd od : Int → Int) (pm ty om st wr : Int) (g : Int) (n : Int) (h0 : 0 ≤ g ∧ g ≤ 5) (h1 : -7 ≤ n ∧ n ≤ 1) : zF l E yX4_markOf wsX4_markOf 1 22 [.ref (q 0), .int (iI g), .int (iI n)] (wM E q z pa sl sv sp pd od pm ty om st wr) (mMark z g n) (wM E q z pa sl sv sp pd od pm ty om st wr) := by
  refine zC_of (cc := cX4_markOf) (maxL := 3) (by decide) rfl (Nat.le_of_ble_eq_true rfl) ?_
  intro p e s m below meth c ls A hx hb hr hts hown hlocks hml hK hA hS hP hD hl
  have hown : s.vm.findClass RX4 = some m.cls := hown
  have hl : lv_has ls 3 [(0, .ref (q 0)), (1, .int (iI g)), (2, .int (iI n))] := hl
  refine lv_iload_n hx hb dX4_markOf_0 rfl (lv_at hl 2 rfl) ?_
  refine lv_iconst (v := iI 1) hx hb dX4_markOf_1 (by decide) ?_
  refine z_icmp_ne (tgt := 14) hx hb dX4_markOf_2 (by decide) ⟨by first | omega | exact (hz _ _ (by omega)).1 | exact (hz _ _ (by omega)).2, by first | omega | exact (hz _ _ (by omega)).1 | exact (hz _ _ (by omega)).2⟩ ⟨by first | omega | exact (hz _ _ (by omega)).1 | exact (hz _ _ (by omega)).2, by first | omega | exact (hz _ _ (by omega)).1 | exact (hz _ _ (by omega)).2⟩ (fun c_2 => ?_) (fun c_2 => ?_)
  · refine lv_aload_n hx hb dX4_markOf_14 rfl (lv_at hl 0 rfl) ?_
    refine lv_iload_n hx hb dX4_markOf_15 rfl (lv_at hl 1 rfl) ?_
    refine lv_bipush (v := iI 7) hx hb dX4_markOf_16 (by decide) ?_
    refine lv_iload_n hx hb dX4_markOf_18 rfl (lv_at hl 2 rfl) ?_
    refine z_isub hx hb dX4_markOf_19 ?_
    refine z_callV0 (ci := 4) (qk := 0) (As := [.int (iI g), .int (iI (7 - n))]) (rest := []) hx hb hml hown hts hK hA hl.1 hP hD hS (c_X4_of l E q z pa sl sv sp pd od pm ty om st wr g (7 - n)  (by first | omega | exact hz _ _ (by omega) | exact hz | exact ⟨by omega, by omega⟩) (by first | omega | exact hz _ _ (by omega) | exact hz | exact ⟨by omega, by omega⟩)) gX4_markOf_X4_of rfl ndX4_of ⟨Nat.le_of_ble_eq_true rfl, Nat.le_of_ble_eq_true rfl⟩ rfl rfl rfl rfl rfl (Nat.le_of_ble_eq_true rfl) dX4_markOf_20 ⟨Nat.le_of_ble_eq_true rfl, Nat.le_of_ble_eq_true rfl⟩ (fun x u H locs hpost hP hD hS => ?_)
    subst hpost
    have hP : va_P E.1 vwCl (wM E q z pa sl sv sp pd od pm ty om st wr) H := hP
    have hD : va_D A (wM E q z pa sl sv sp pd od pm ty om st wr) := hD
    exact z_iret hx hb hr hlocks hK hS () (by unfold mMark; first | rw [if_pos (by omega)] | rw [if_neg (by omega)]) hP hD dX4_markOf_23
  · refine lv_aload_n hx hb dX4_markOf_5 rfl (lv_at hl 0 rfl) ?_
    refine lv_iload_n hx hb dX4_markOf_6 rfl (lv_at hl 1 rfl) ?_
    refine lv_iconst (v := iI 5) hx hb dX4_markOf_7 (by decide) ?_
    refine z_callV0 (ci := 4) (qk := 0) (As := [.int (iI g), .int (iI 5)]) (rest := []) hx hb hml hown hts hK hA hl.1 hP hD hS (c_X4_of l E q z pa sl sv sp pd od pm ty om st wr g 5  (by first | omega | exact hz _ _ (by omega) | exact hz | exact ⟨by omega, by omega⟩) (by first | omega | exact hz _ _ (by omega) | exact hz | exact ⟨by omega, by omega⟩)) gX4_markOf_X4_of rfl ndX4_of ⟨Nat.le_of_ble_eq_true rfl, Nat.le_of_ble_eq_true rfl⟩ rfl rfl rfl rfl rfl (Nat.le_of_ble_eq_true rfl) dX4_markOf_8 ⟨Nat.le_of_ble_eq_true rfl, Nat.le_of_ble_eq_true rfl⟩ (fun x u H locs hpost hP hD hS => ?_)
    subst hpost
    have hP : va_P E.1 vwCl (wM E q z pa sl sv sp pd od pm ty om st wr) H := hP
    have hD : va_D A (wM E q z pa sl sv sp pd od pm ty om st wr) := hD
    refine lv_goto (tgt := 23) hx hb dX4_markOf_11 (by decide) ?_
    exact z_iret hx hb hr hlocks hK hS () (by unfold mMark; first | rw [if_pos (by omega)] | rw [if_neg (by omega)]) hP hD dX4_markOf_23

theorem ndX4_placeOf : yX4_placeOf.cls = RX4 ∧ yX4_placeOf.cls ≠ "java/lang/invoke/MethodHandle" ∧ yX4_placeOf.cls ≠ "java/lang/invoke/VarHandle" ∧ (parseMethodDescriptor yX4_placeOf.desc).map (fun d => d.parameters.length) = some 2 := by decide +kernel
set_option maxRecDepth 100000 in
set_option maxHeartbeats 4000000 in
theorem c_X4_placeOf (l : Launch) (E : zE) (q : Nat → Nat) (z pa sl sv sp pd od : Int → Int) (pm ty om st wr : Int) (g : Int) (mk : Int) (h0 : 0 ≤ g ∧ g ≤ 5) (h1 : 0 ≤ zg z g 1 ∧ zg z g 1 ≤ 8) (h2 : CZ z) (h3 : rg mk) : zF l E yX4_placeOf wsX4_placeOf 2 45 [.ref (q 0), .int (iI g), .int (iI mk)] (wM E q z pa sl sv sp pd od pm ty om st wr) (mPlace z g mk) (wM E q z pa sl sv sp pd od pm ty om st wr) := by
  have hz := h2
  refine zC_of (cc := cX4_placeOf) (maxL := 5) (by decide) rfl (Nat.le_of_ble_eq_true rfl) ?_
  intro p e s m below meth c ls A hx hb hr hts hown hlocks hml hK hA hS hP hD hl
  have hown : s.vm.findClass RX4 = some m.cls := hown
  have hl : lv_has ls 5 [(0, .ref (q 0)), (1, .int (iI g)), (2, .int (iI mk))] := hl
  refine lv_bipush (v := iI (-6)) hx hb dX4_placeOf_0 (by decide) ?_
  refine lv_istore_n (lv' := [(3, .int (iI (-6))), (0, .ref (q 0)), (1, .int (iI g)), (2, .int (iI mk))]) hx hb dX4_placeOf_2 rfl hl (by decide) rfl (fun ls hl => ?_)
  refine lv_iconst (v := iI 0) hx hb dX4_placeOf_3 (by decide) ?_
  refine lv_istore (lv' := [(4, .int (iI 0)), (3, .int (iI (-6))), (0, .ref (q 0)), (1, .int (iI g)), (2, .int (iI mk))]) hx hb dX4_placeOf_4 hl (by decide) rfl (fun ls hl => ?_)
  have hloop6 : ∀ (n : Nat) (f1 : Int) (i1 : Int) (hmu : zg z g 1 - i1 = (n : Int)) (hi6_0 : f1 = fd (fun p => zg z g (15 + 5 * p + 0)) mk (i1).toNat) (hi6_1 : 0 ≤ i1 ∧ i1 ≤ zg z g 1) (H : Heap) (locs : List Loc) (ls : Array Slot), va_P E.1 vwCl (wM E q z pa sl sv sp pd od pm ty om st wr) H → va_D A (wM E q z pa sl sv sp pd od pm ty om st wr) → va_S A s.heap H locs → lv_has ls 5 [(4, .int (iI i1)), (3, .int (iI f1)), (0, .ref (q 0)), (1, .int (iI g)), (2, .int (iI mk))] → W p l e (zR 2 45) s m ([.ref (q 0), .int (iI g), .int (iI mk)] : List Value).toArray below meth c H locs 0 0 (MQ below (zQ E A (S := Unit) (fun x _ => x = (mPlace z g mk)) (fun _ => wM E q z pa sl sv sp pd od pm ty om st wr)) ([.ref (q 0), .int (iI g), .int (iI mk)] : List Value).toArray s 0 0 A) (F0 m 6 ls []) := by
    intro n
    induction n using Nat.strongRecOn with
    | ind n ih6 =>
      intro f1 i1 hmu6 hi6_0 hi6_1 H locs ls hP hD hS hl
      refine lv_iload hx hb dX4_placeOf_6 (lv_at hl 0 rfl) ?_
      refine lv_aload_n hx hb dX4_placeOf_8 rfl (lv_at hl 2 rfl) ?_
      refine lv_iload_n hx hb dX4_placeOf_9 rfl (lv_at hl 3 rfl) ?_
      refine z_callV0 (ci := 4) (qk := 0) (As := [.int (iI g)]) (rest := [.int (iI i1)]) hx hb hml hown hts hK hA hl.1 hP hD hS (c_X4_many l E q z pa sl sv sp pd od pm ty om st wr g  (by first | omega | exact hz _ _ (by omega) | exact hz | exact ⟨by omega, by omega⟩)) gX4_placeOf_X4_many rfl ndX4_many ⟨Nat.le_of_ble_eq_true rfl, Nat.le_of_ble_eq_true rfl⟩ rfl rfl rfl rfl rfl (Nat.le_of_ble_eq_true rfl) dX4_placeOf_10 ⟨Nat.le_of_ble_eq_true rfl, Nat.le_of_ble_eq_true rfl⟩ (fun x u H locs hpost hP hD hS => ?_)
      subst hpost
      have hP : va_P E.1 vwCl (wM E q z pa sl sv sp pd od pm ty om st wr) H := hP
      have hD : va_D A (wM E q z pa sl sv sp pd od pm ty om st wr) := hD
      refine z_icmp_ge (tgt := 41) hx hb dX4_placeOf_13 (by decide) ⟨by first | omega | exact (hz _ _ (by omega)).1 | exact (hz _ _ (by omega)).2, by first | omega | exact (hz _ _ (by omega)).1 | exact (hz _ _ (by omega)).2⟩ ⟨by first | omega | exact (hz _ _ (by omega)).1 | exact (hz _ _ (by omega)).2, by first | omega | exact (hz _ _ (by omega)).1 | exact (hz _ _ (by omega)).2⟩ (fun c_13 => ?_) (fun c_13 => ?_)
      · refine lv_iload_n hx hb dX4_placeOf_41 rfl (lv_at hl 1 rfl) ?_
        exact z_iret hx hb hr hlocks hK hS () (by rw [hi6_0, show i1 = zg z g 1 by omega]; rfl) hP hD dX4_placeOf_42
      · refine lv_aload_n hx hb dX4_placeOf_16 rfl (lv_at hl 2 rfl) ?_
        refine lv_iload_n hx hb dX4_placeOf_17 rfl (lv_at hl 3 rfl) ?_
        refine lv_iload hx hb dX4_placeOf_18 (lv_at hl 0 rfl) ?_
        refine lv_iconst (v := iI 0) hx hb dX4_placeOf_20 (by decide) ?_
        refine z_callV0 (ci := 4) (qk := 0) (As := [.int (iI g), .int (iI i1), .int (iI 0)]) (rest := []) hx hb hml hown hts hK hA hl.1 hP hD hS (c_X4_gen l E q z pa sl sv sp pd od pm ty om st wr g i1 0  (by first | omega | exact hz _ _ (by omega) | exact hz | exact ⟨by omega, by omega⟩) (by first | omega | exact hz _ _ (by omega) | exact hz | exact ⟨by omega, by omega⟩)) gX4_placeOf_X4_gen rfl ndX4_gen ⟨Nat.le_of_ble_eq_true rfl, Nat.le_of_ble_eq_true rfl⟩ rfl rfl rfl rfl rfl (Nat.le_of_ble_eq_true rfl) dX4_placeOf_21 ⟨Nat.le_of_ble_eq_true rfl, Nat.le_of_ble_eq_true rfl⟩ (fun x u H locs hpost hP hD hS => ?_)
        subst hpost
        have hP : va_P E.1 vwCl (wM E q z pa sl sv sp pd od pm ty om st wr) H := hP
        have hD : va_D A (wM E q z pa sl sv sp pd od pm ty om st wr) := hD
        refine lv_iload_n hx hb dX4_placeOf_24 rfl (lv_at hl 4 rfl) ?_
        refine z_icmp_ne (tgt := 33) hx hb dX4_placeOf_25 (by decide) ⟨by first | omega | exact (hz _ _ (by omega)).1 | exact (hz _ _ (by omega)).2, by first | omega | exact (hz _ _ (by omega)).1 | exact (hz _ _ (by omega)).2⟩ ⟨by first | omega | exact (hz _ _ (by omega)).1 | exact (hz _ _ (by omega)).2, by first | omega | exact (hz _ _ (by omega)).1 | exact (hz _ _ (by omega)).2⟩ (fun c_25 => ?_) (fun c_25 => ?_)
        · refine lv_iload_n hx hb dX4_placeOf_33 rfl (lv_at hl 1 rfl) ?_
          refine lv_istore_n (lv' := [(3, .int (iI f1)), (4, .int (iI i1)), (0, .ref (q 0)), (1, .int (iI g)), (2, .int (iI mk))]) hx hb dX4_placeOf_34 rfl hl (by decide) rfl (fun ls hl => ?_)
          refine lv_iinc (v := iI (i1 + 1)) (lv' := [(4, .int (iI (i1 + 1))), (3, .int (iI f1)), (0, .ref (q 0)), (1, .int (iI g)), (2, .int (iI mk))]) hx hb dX4_placeOf_35 hl (k := 1) rfl (iI_add _ _) (by decide) rfl (fun ls hl => ?_)
          refine lv_goto (tgt := 6) hx hb dX4_placeOf_38 (by decide) ?_
          exact ih6 (zg z g 1 - (i1 + 1) : Int).toNat (by omega) f1 (i1 + 1) (by omega) (by unfold fd; rw [itr_step (by omega)]; first | rw [if_pos c_25] | (rw [if_neg c_25, hi6_0]; rfl)) (by omega) _ _ ls hP hD hS (lv_sub hl [0, 1, 2, 3, 4] rfl)
        · refine lv_iload hx hb dX4_placeOf_28 (lv_at hl 0 rfl) ?_
          refine lv_goto (tgt := 34) hx hb dX4_placeOf_30 (by decide) ?_
          refine lv_istore_n (lv' := [(3, .int (iI i1)), (4, .int (iI i1)), (0, .ref (q 0)), (1, .int (iI g)), (2, .int (iI mk))]) hx hb dX4_placeOf_34 rfl hl (by decide) rfl (fun ls hl => ?_)
          refine lv_iinc (v := iI (i1 + 1)) (lv' := [(4, .int (iI (i1 + 1))), (3, .int (iI i1)), (0, .ref (q 0)), (1, .int (iI g)), (2, .int (iI mk))]) hx hb dX4_placeOf_35 hl (k := 1) rfl (iI_add _ _) (by decide) rfl (fun ls hl => ?_)
          refine lv_goto (tgt := 6) hx hb dX4_placeOf_38 (by decide) ?_
          exact ih6 (zg z g 1 - (i1 + 1) : Int).toNat (by omega) i1 (i1 + 1) (by omega) (by unfold fd; rw [itr_step (by omega)]; first | rw [if_pos c_25] | (rw [if_neg c_25, hi6_0]; rfl)) (by omega) _ _ ls hP hD hS (lv_sub hl [0, 1, 2, 3, 4] rfl)
  exact hloop6 (zg z g 1 - 0 : Int).toNat (-6) 0 (by omega) (rfl) (by omega) _ _ ls hP hD hS (lv_sub hl [0, 1, 2, 3, 4] rfl)
