theorem ndX4_ofGroup : yX4_ofGroup.cls = RX4 ∧ yX4_ofGroup.cls ≠ "java/lang/invoke/MethodHandle" ∧ yX4_ofGroup.cls ≠ "java/lang/invoke/VarHandle" ∧ (parseMethodDescriptor yX4_ofGroup.desc).map (fun d => d.parameters.length) = some 2 := by decide +kernel
set_option maxRecDepth 100000 in
set_option maxHeartbeats 400000 in
theorem c_X4_ofGroup (l : Launch) (E : zE) (q : Nat → Nat) (z pa sl sv sp pd od : Int → Int) (pm ty om st wr : Int) (g : Int) (k : Int) (h0 : rg g) (h1 : rg k) (h2 : MI z) : zF l E yX4_ofGroup wsX4_ofGroup 4 90 [.ref (q 0), .int (iI g), .int (iI k)] (wM E q z pa sl sv sp pd od pm ty om st wr) (if ¬ (0 ≤ g ∧ g ≤ 5) then -1 else if k = 0 ∨ k = 1 then zg z g k else if k = 2 then mHoles z g else if 3 ≤ k ∧ k ≤ 5 then zg z g (k - 1) else if k = 6 then mSum z g else -2) (wM E q z pa sl sv sp pd od pm ty om st wr) := by
  obtain ⟨hz, hmi, hb1, hb2, hb6⟩ := id h2
  have hm : AG z := fun g a b => (hmi g a b).1
  refine zC_of (cc := cX4_ofGroup) (maxL := 3) (by decide) rfl (Nat.le_of_ble_eq_true rfl) ?_
  intro p e s m below meth c ls A hx hb hr hts hown hlocks hml hK hA hS hP hD hl
  have hown : s.vm.findClass RX4 = some m.cls := hown
  have hl : lv_has ls 3 [(0, .ref (q 0)), (1, .int (iI g)), (2, .int (iI k))] := hl
  refine lv_iload_n hx hb dX4_ofGroup_0 rfl (lv_at hl 1 rfl) ?_
  refine z_callS0 (As := [.int (iI g)]) (rest := []) hx hb hml hown hts hK hA hl.1 hP hD hS (c_X4_isGroup l E  g  (by first | omega | exact hz _ _ (by omega) | exact hz | exact ⟨by omega, by omega⟩ | exact hm | exact hcz | exact ⟨by omega, by omega⟩)) gX4_ofGroup_X4_isGroup rfl ndX4_isGroup ⟨Nat.le_of_ble_eq_true rfl, Nat.le_of_ble_eq_true rfl⟩ rfl rfl (Nat.le_of_ble_eq_true rfl) dX4_ofGroup_1 ⟨Nat.le_of_ble_eq_true rfl, Nat.le_of_ble_eq_true rfl⟩ (fun x H locs hpost hP hD hS => ?_)
  subst hpost
  refine z_ifb_ne (tgt := 9) hx hb dX4_ofGroup_4 (by decide) (fun c_4 => ?_) (fun c_4 => ?_)
  · have hgi := hmi g (by omega) (by omega)
    refine lv_iload_n hx hb dX4_ofGroup_9 rfl (lv_at hl 2 rfl) ?_
    by_cases sw_10_0 : k = 0
    · refine lv_tableIn (off := 42) (tgt := 52) hx hb dX4_ofGroup_10 (by rw [toInt_iI ⟨by omega, by omega⟩]; omega) (by rw [toInt_iI ⟨by omega, by omega⟩]; omega) (by rw [toInt_iI ⟨by omega, by omega⟩, sw_10_0]; rfl) (by decide) ?_
      refine lv_aload_n hx hb dX4_ofGroup_52 rfl (lv_at hl 0 rfl) ?_
      refine lv_iload_n hx hb dX4_ofGroup_53 rfl (lv_at hl 1 rfl) ?_
      refine lv_iload_n hx hb dX4_ofGroup_54 rfl (lv_at hl 2 rfl) ?_
      refine z_callV0 (ci := 4) (qk := 0) (As := [.int (iI g), .int (iI k)]) (rest := []) hx hb hml hown hts hK hA hl.1 hP hD hS (c_X4_of l E q z pa sl sv sp pd od pm ty om st wr g k  (by first | omega | exact hz _ _ (by omega) | exact hz | exact ⟨by omega, by omega⟩ | exact hm | exact hcz | exact ⟨by omega, by omega⟩) (by first | omega | exact hz _ _ (by omega) | exact hz | exact ⟨by omega, by omega⟩ | exact hm | exact hcz | exact ⟨by omega, by omega⟩)) gX4_ofGroup_X4_of rfl ndX4_of ⟨Nat.le_of_ble_eq_true rfl, Nat.le_of_ble_eq_true rfl⟩ rfl rfl rfl rfl rfl (Nat.le_of_ble_eq_true rfl) dX4_ofGroup_55 ⟨Nat.le_of_ble_eq_true rfl, Nat.le_of_ble_eq_true rfl⟩ (fun x u H locs hpost hP hD hS => ?_)
      subst hpost
      have hP : va_P E.1 vwCl (wM E q z pa sl sv sp pd od pm ty om st wr) H := hP
      have hD : va_D A (wM E q z pa sl sv sp pd od pm ty om st wr) := hD
      exact z_iret hx hb hr hlocks hK hS () (by (repeat (first | with_reducible rfl | rw [if_pos (by omega)] | rw [if_neg (by omega)]))) hP hD dX4_ofGroup_58
    by_cases sw_10_1 : k = 1
    · refine lv_tableIn (off := 42) (tgt := 52) hx hb dX4_ofGroup_10 (by rw [toInt_iI ⟨by omega, by omega⟩]; omega) (by rw [toInt_iI ⟨by omega, by omega⟩]; omega) (by rw [toInt_iI ⟨by omega, by omega⟩, sw_10_1]; rfl) (by decide) ?_
      refine lv_aload_n hx hb dX4_ofGroup_52 rfl (lv_at hl 0 rfl) ?_
      refine lv_iload_n hx hb dX4_ofGroup_53 rfl (lv_at hl 1 rfl) ?_
      refine lv_iload_n hx hb dX4_ofGroup_54 rfl (lv_at hl 2 rfl) ?_
      refine z_callV0 (ci := 4) (qk := 0) (As := [.int (iI g), .int (iI k)]) (rest := []) hx hb hml hown hts hK hA hl.1 hP hD hS (c_X4_of l E q z pa sl sv sp pd od pm ty om st wr g k  (by first | omega | exact hz _ _ (by omega) | exact hz | exact ⟨by omega, by omega⟩ | exact hm | exact hcz | exact ⟨by omega, by omega⟩) (by first | omega | exact hz _ _ (by omega) | exact hz | exact ⟨by omega, by omega⟩ | exact hm | exact hcz | exact ⟨by omega, by omega⟩)) gX4_ofGroup_X4_of rfl ndX4_of ⟨Nat.le_of_ble_eq_true rfl, Nat.le_of_ble_eq_true rfl⟩ rfl rfl rfl rfl rfl (Nat.le_of_ble_eq_true rfl) dX4_ofGroup_55 ⟨Nat.le_of_ble_eq_true rfl, Nat.le_of_ble_eq_true rfl⟩ (fun x u H locs hpost hP hD hS => ?_)
      subst hpost
      have hP : va_P E.1 vwCl (wM E q z pa sl sv sp pd od pm ty om st wr) H := hP
      have hD : va_D A (wM E q z pa sl sv sp pd od pm ty om st wr) := hD
      exact z_iret hx hb hr hlocks hK hS () (by (repeat (first | with_reducible rfl | rw [if_pos (by omega)] | rw [if_neg (by omega)]))) hP hD dX4_ofGroup_58
    by_cases sw_10_2 : k = 2
    · refine lv_tableIn (off := 49) (tgt := 59) hx hb dX4_ofGroup_10 (by rw [toInt_iI ⟨by omega, by omega⟩]; omega) (by rw [toInt_iI ⟨by omega, by omega⟩]; omega) (by rw [toInt_iI ⟨by omega, by omega⟩, sw_10_2]; rfl) (by decide) ?_
      refine lv_aload_n hx hb dX4_ofGroup_59 rfl (lv_at hl 0 rfl) ?_
      refine lv_iload_n hx hb dX4_ofGroup_60 rfl (lv_at hl 1 rfl) ?_
      refine z_callV0 (ci := 4) (qk := 0) (As := [.int (iI g)]) (rest := []) hx hb hml hown hts hK hA hl.1 hP hD hS (c_X4_holes l E q z pa sl sv sp pd od pm ty om st wr g  (by first | omega | exact hz _ _ (by omega) | exact hz | exact ⟨by omega, by omega⟩ | exact hm | exact hcz | exact ⟨by omega, by omega⟩) (by first | omega | exact hz _ _ (by omega) | exact hz | exact ⟨by omega, by omega⟩ | exact hm | exact hcz | exact ⟨by omega, by omega⟩) (by first | omega | exact hz _ _ (by omega) | exact hz | exact ⟨by omega, by omega⟩ | exact hm | exact hcz | exact ⟨by omega, by omega⟩)) gX4_ofGroup_X4_holes rfl ndX4_holes ⟨Nat.le_of_ble_eq_true rfl, Nat.le_of_ble_eq_true rfl⟩ rfl rfl rfl rfl rfl (Nat.le_of_ble_eq_true rfl) dX4_ofGroup_61 ⟨Nat.le_of_ble_eq_true rfl, Nat.le_of_ble_eq_true rfl⟩ (fun x u H locs hpost hP hD hS => ?_)
      subst hpost
      have hP : va_P E.1 vwCl (wM E q z pa sl sv sp pd od pm ty om st wr) H := hP
      have hD : va_D A (wM E q z pa sl sv sp pd od pm ty om st wr) := hD
      exact z_iret hx hb hr hlocks hK hS () (by (repeat (first | with_reducible rfl | rw [if_pos (by omega)] | rw [if_neg (by omega)]))) hP hD dX4_ofGroup_64
    by_cases sw_10_3 : k = 3
    · refine lv_tableIn (off := 55) (tgt := 65) hx hb dX4_ofGroup_10 (by rw [toInt_iI ⟨by omega, by omega⟩]; omega) (by rw [toInt_iI ⟨by omega, by omega⟩]; omega) (by rw [toInt_iI ⟨by omega, by omega⟩, sw_10_3]; rfl) (by decide) ?_
      refine lv_aload_n hx hb dX4_ofGroup_65 rfl (lv_at hl 0 rfl) ?_
      refine lv_iload_n hx hb dX4_ofGroup_66 rfl (lv_at hl 1 rfl) ?_
      refine lv_iload_n hx hb dX4_ofGroup_67 rfl (lv_at hl 2 rfl) ?_
      refine lv_iconst (v := iI 1) hx hb dX4_ofGroup_68 (by decide) ?_
      refine z_isub hx hb dX4_ofGroup_69 ?_
      refine z_callV0 (ci := 4) (qk := 0) (As := [.int (iI g), .int (iI (k - 1))]) (rest := []) hx hb hml hown hts hK hA hl.1 hP hD hS (c_X4_of l E q z pa sl sv sp pd od pm ty om st wr g (k - 1)  (by first | omega | exact hz _ _ (by omega) | exact hz | exact ⟨by omega, by omega⟩ | exact hm | exact hcz | exact ⟨by omega, by omega⟩) (by first | omega | exact hz _ _ (by omega) | exact hz | exact ⟨by omega, by omega⟩ | exact hm | exact hcz | exact ⟨by omega, by omega⟩)) gX4_ofGroup_X4_of rfl ndX4_of ⟨Nat.le_of_ble_eq_true rfl, Nat.le_of_ble_eq_true rfl⟩ rfl rfl rfl rfl rfl (Nat.le_of_ble_eq_true rfl) dX4_ofGroup_70 ⟨Nat.le_of_ble_eq_true rfl, Nat.le_of_ble_eq_true rfl⟩ (fun x u H locs hpost hP hD hS => ?_)
      subst hpost
      have hP : va_P E.1 vwCl (wM E q z pa sl sv sp pd od pm ty om st wr) H := hP
      have hD : va_D A (wM E q z pa sl sv sp pd od pm ty om st wr) := hD
      exact z_iret hx hb hr hlocks hK hS () (by (repeat (first | with_reducible rfl | rw [if_pos (by omega)] | rw [if_neg (by omega)]))) hP hD dX4_ofGroup_73
    by_cases sw_10_4 : k = 4
    · refine lv_tableIn (off := 55) (tgt := 65) hx hb dX4_ofGroup_10 (by rw [toInt_iI ⟨by omega, by omega⟩]; omega) (by rw [toInt_iI ⟨by omega, by omega⟩]; omega) (by rw [toInt_iI ⟨by omega, by omega⟩, sw_10_4]; rfl) (by decide) ?_
      refine lv_aload_n hx hb dX4_ofGroup_65 rfl (lv_at hl 0 rfl) ?_
      refine lv_iload_n hx hb dX4_ofGroup_66 rfl (lv_at hl 1 rfl) ?_
      refine lv_iload_n hx hb dX4_ofGroup_67 rfl (lv_at hl 2 rfl) ?_
      refine lv_iconst (v := iI 1) hx hb dX4_ofGroup_68 (by decide) ?_
      refine z_isub hx hb dX4_ofGroup_69 ?_
      refine z_callV0 (ci := 4) (qk := 0) (As := [.int (iI g), .int (iI (k - 1))]) (rest := []) hx hb hml hown hts hK hA hl.1 hP hD hS (c_X4_of l E q z pa sl sv sp pd od pm ty om st wr g (k - 1)  (by first | omega | exact hz _ _ (by omega) | exact hz | exact ⟨by omega, by omega⟩ | exact hm | exact hcz | exact ⟨by omega, by omega⟩) (by first | omega | exact hz _ _ (by omega) | exact hz | exact ⟨by omega, by omega⟩ | exact hm | exact hcz | exact ⟨by omega, by omega⟩)) gX4_ofGroup_X4_of rfl ndX4_of ⟨Nat.le_of_ble_eq_true rfl, Nat.le_of_ble_eq_true rfl⟩ rfl rfl rfl rfl rfl (Nat.le_of_ble_eq_true rfl) dX4_ofGroup_70 ⟨Nat.le_of_ble_eq_true rfl, Nat.le_of_ble_eq_true rfl⟩ (fun x u H locs hpost hP hD hS => ?_)
      subst hpost
      have hP : va_P E.1 vwCl (wM E q z pa sl sv sp pd od pm ty om st wr) H := hP
      have hD : va_D A (wM E q z pa sl sv sp pd od pm ty om st wr) := hD
      exact z_iret hx hb hr hlocks hK hS () (by (repeat (first | with_reducible rfl | rw [if_pos (by omega)] | rw [if_neg (by omega)]))) hP hD dX4_ofGroup_73
    by_cases sw_10_5 : k = 5
    · refine lv_tableIn (off := 55) (tgt := 65) hx hb dX4_ofGroup_10 (by rw [toInt_iI ⟨by omega, by omega⟩]; omega) (by rw [toInt_iI ⟨by omega, by omega⟩]; omega) (by rw [toInt_iI ⟨by omega, by omega⟩, sw_10_5]; rfl) (by decide) ?_
      refine lv_aload_n hx hb dX4_ofGroup_65 rfl (lv_at hl 0 rfl) ?_
      refine lv_iload_n hx hb dX4_ofGroup_66 rfl (lv_at hl 1 rfl) ?_
      refine lv_iload_n hx hb dX4_ofGroup_67 rfl (lv_at hl 2 rfl) ?_
      refine lv_iconst (v := iI 1) hx hb dX4_ofGroup_68 (by decide) ?_
      refine z_isub hx hb dX4_ofGroup_69 ?_
      refine z_callV0 (ci := 4) (qk := 0) (As := [.int (iI g), .int (iI (k - 1))]) (rest := []) hx hb hml hown hts hK hA hl.1 hP hD hS (c_X4_of l E q z pa sl sv sp pd od pm ty om st wr g (k - 1)  (by first | omega | exact hz _ _ (by omega) | exact hz | exact ⟨by omega, by omega⟩ | exact hm | exact hcz | exact ⟨by omega, by omega⟩) (by first | omega | exact hz _ _ (by omega) | exact hz | exact ⟨by omega, by omega⟩ | exact hm | exact hcz | exact ⟨by omega, by omega⟩)) gX4_ofGroup_X4_of rfl ndX4_of ⟨Nat.le_of_ble_eq_true rfl, Nat.le_of_ble_eq_true rfl⟩ rfl rfl rfl rfl rfl (Nat.le_of_ble_eq_true rfl) dX4_ofGroup_70 ⟨Nat.le_of_ble_eq_true rfl, Nat.le_of_ble_eq_true rfl⟩ (fun x u H locs hpost hP hD hS => ?_)
      subst hpost
      have hP : va_P E.1 vwCl (wM E q z pa sl sv sp pd od pm ty om st wr) H := hP
      have hD : va_D A (wM E q z pa sl sv sp pd od pm ty om st wr) := hD
      exact z_iret hx hb hr hlocks hK hS () (by (repeat (first | with_reducible rfl | rw [if_pos (by omega)] | rw [if_neg (by omega)]))) hP hD dX4_ofGroup_73
    by_cases sw_10_6 : k = 6
    · refine lv_tableIn (off := 64) (tgt := 74) hx hb dX4_ofGroup_10 (by rw [toInt_iI ⟨by omega, by omega⟩]; omega) (by rw [toInt_iI ⟨by omega, by omega⟩]; omega) (by rw [toInt_iI ⟨by omega, by omega⟩, sw_10_6]; rfl) (by decide) ?_
      refine lv_aload_n hx hb dX4_ofGroup_74 rfl (lv_at hl 0 rfl) ?_
      refine lv_iload_n hx hb dX4_ofGroup_75 rfl (lv_at hl 1 rfl) ?_
      refine z_callV0 (ci := 4) (qk := 0) (As := [.int (iI g)]) (rest := []) hx hb hml hown hts hK hA hl.1 hP hD hS (c_X4_allData l E q z pa sl sv sp pd od pm ty om st wr g  (by first | omega | exact hz _ _ (by omega) | exact hz | exact ⟨by omega, by omega⟩ | exact hm | exact hcz | exact ⟨by omega, by omega⟩) (by first | omega | exact hz _ _ (by omega) | exact hz | exact ⟨by omega, by omega⟩ | exact hm | exact hcz | exact ⟨by omega, by omega⟩) (by first | omega | exact hz _ _ (by omega) | exact hz | exact ⟨by omega, by omega⟩ | exact hm | exact hcz | exact ⟨by omega, by omega⟩)) gX4_ofGroup_X4_allData rfl ndX4_allData ⟨Nat.le_of_ble_eq_true rfl, Nat.le_of_ble_eq_true rfl⟩ rfl rfl rfl rfl rfl (Nat.le_of_ble_eq_true rfl) dX4_ofGroup_76 ⟨Nat.le_of_ble_eq_true rfl, Nat.le_of_ble_eq_true rfl⟩ (fun x u H locs hpost hP hD hS => ?_)
      subst hpost
      have hP : va_P E.1 vwCl (wM E q z pa sl sv sp pd od pm ty om st wr) H := hP
      have hD : va_D A (wM E q z pa sl sv sp pd od pm ty om st wr) := hD
      exact z_iret hx hb hr hlocks hK hS () (by (repeat (first | with_reducible rfl | rw [if_pos (by omega)] | rw [if_neg (by omega)]))) hP hD dX4_ofGroup_79
    refine lv_tableOut (tgt := 80) hx hb dX4_ofGroup_10 (by rw [toInt_iI ⟨by omega, by omega⟩]; omega) (by decide) ?_
    refine lv_bipush (v := iI (-2)) hx hb dX4_ofGroup_80 (by decide) ?_
    exact z_iret hx hb hr hlocks hK hS () (by (repeat (first | with_reducible rfl | rw [if_pos (by omega)] | rw [if_neg (by omega)]))) hP hD dX4_ofGroup_82
  · refine lv_iconst (v := iI (-1)) hx hb dX4_ofGroup_7 (by decide) ?_
    exact z_iret hx hb hr hlocks hK hS () (by (repeat (first | with_reducible rfl | rw [if_pos (by omega)] | rw [if_neg (by omega)]))) hP hD dX4_ofGroup_8

theorem ndX4_generation : yX4_generation.cls = RX4 ∧ yX4_generation.cls ≠ "java/lang/invoke/MethodHandle" ∧ yX4_generation.cls ≠ "java/lang/invoke/VarHandle" ∧ (parseMethodDescriptor yX4_generation.desc).map (fun d => d.parameters.length) = some 3 := by decide +kernel
set_option maxRecDepth 100000 in
set_option maxHeartbeats 400000 in
theorem c_X4_generation (l : Launch) (E : zE) (q : Nat → Nat) (z pa sl sv sp pd od : Int → Int) (pm ty om st wr : Int) (g : Int) (pl : Int) (k : Int) (h0 : rg g) (h1 : rg pl) (h2 : rg k) (h3 : MI z) : zF l E yX4_generation wsX4_generation 5 116 [.ref (q 0), .int (iI g), .int (iI pl), .int (iI k)] (wM E q z pa sl sv sp pd od pm ty om st wr) (if ¬ (0 ≤ g ∧ g ≤ 5 ∧ 0 ≤ pl ∧ pl ≤ zg z g 1 - 1) then -1 else if k = 0 then zg z g (15 + 5 * pl + 1) else if k = 1 then zg z g (15 + 5 * pl + 2) else if k = 2 then (if zg z g (15 + 5 * pl + 2) = -6 then 1 else 0) else if k = 3 then zg z g (15 + 5 * pl + 3) else if k = 4 then zg z g (15 + 5 * pl + 4) else if k = 5 then mNameOf z g pl else -2) (wM E q z pa sl sv sp pd od pm ty om st wr) := by
  obtain ⟨hz, hmi, hb1, hb2, hb6⟩ := id h3
  have hm : AG z := fun g a b => (hmi g a b).1
  have hb1r : rg (z 1) := by omega
  refine zC_of (cc := cX4_generation) (maxL := 4) (by decide) rfl (Nat.le_of_ble_eq_true rfl) ?_
  intro p e s m below meth c ls A hx hb hr hts hown hlocks hml hK hA hS hP hD hl
  have hown : s.vm.findClass RX4 = some m.cls := hown
  have hl : lv_has ls 4 [(0, .ref (q 0)), (1, .int (iI g)), (2, .int (iI pl)), (3, .int (iI k))] := hl
  refine lv_iload_n hx hb dX4_generation_0 rfl (lv_at hl 1 rfl) ?_
  refine z_callS0 (As := [.int (iI g)]) (rest := []) hx hb hml hown hts hK hA hl.1 hP hD hS (c_X4_isGroup l E  g  (by first | omega | exact hz _ _ (by omega) | exact hz | exact ⟨by omega, by omega⟩ | exact hm | exact hcz | exact ⟨by omega, by omega⟩ | exact hb1r)) gX4_generation_X4_isGroup rfl ndX4_isGroup ⟨Nat.le_of_ble_eq_true rfl, Nat.le_of_ble_eq_true rfl⟩ rfl rfl (Nat.le_of_ble_eq_true rfl) dX4_generation_1 ⟨Nat.le_of_ble_eq_true rfl, Nat.le_of_ble_eq_true rfl⟩ (fun x H locs hpost hP hD hS => ?_)
  subst hpost
  refine z_ifb_eq (tgt := 22) hx hb dX4_generation_4 (by decide) (fun c_4 => ?_) (fun c_4 => ?_)
  · refine lv_iconst (v := iI (-1)) hx hb dX4_generation_22 (by decide) ?_
    exact z_iret hx hb hr hlocks hK hS () (by (repeat (first | with_reducible rfl | rw [if_pos (by omega)] | rw [if_neg (by omega)]))) hP hD dX4_generation_23
  · have hgi := hmi g (by omega) (by omega)
    refine lv_iload_n hx hb dX4_generation_7 rfl (lv_at hl 2 rfl) ?_
    refine lv_iconst (v := iI 0) hx hb dX4_generation_8 (by decide) ?_
    refine lv_aload_n hx hb dX4_generation_9 rfl (lv_at hl 0 rfl) ?_
    refine lv_iload_n hx hb dX4_generation_10 rfl (lv_at hl 1 rfl) ?_
    refine z_callV0 (ci := 4) (qk := 0) (As := [.int (iI g)]) (rest := [.int (iI 0), .int (iI pl)]) hx hb hml hown hts hK hA hl.1 hP hD hS (c_X4_many l E q z pa sl sv sp pd od pm ty om st wr g  (by first | omega | exact hz _ _ (by omega) | exact hz | exact ⟨by omega, by omega⟩ | exact hm | exact hcz | exact ⟨by omega, by omega⟩ | exact hb1r)) gX4_generation_X4_many rfl ndX4_many ⟨Nat.le_of_ble_eq_true rfl, Nat.le_of_ble_eq_true rfl⟩ rfl rfl rfl rfl rfl (Nat.le_of_ble_eq_true rfl) dX4_generation_11 ⟨Nat.le_of_ble_eq_true rfl, Nat.le_of_ble_eq_true rfl⟩ (fun x u H locs hpost hP hD hS => ?_)
    subst hpost
    have hP : va_P E.1 vwCl (wM E q z pa sl sv sp pd od pm ty om st wr) H := hP
    have hD : va_D A (wM E q z pa sl sv sp pd od pm ty om st wr) := hD
    refine lv_iconst (v := iI 1) hx hb dX4_generation_14 (by decide) ?_
    refine z_isub hx hb dX4_generation_15 ?_
    refine z_callS0 (As := [.int (iI pl), .int (iI 0), .int (iI ((zg z g 1) - 1))]) (rest := []) hx hb hml hown hts hK hA hl.1 hP hD hS (c_X4_in l E  pl 0 ((zg z g 1) - 1)  (by first | omega | exact hz _ _ (by omega) | exact hz | exact ⟨by omega, by omega⟩ | exact hm | exact hcz | exact ⟨by omega, by omega⟩ | exact hb1r) (by first | omega | exact hz _ _ (by omega) | exact hz | exact ⟨by omega, by omega⟩ | exact hm | exact hcz | exact ⟨by omega, by omega⟩ | exact hb1r) (by first | omega | exact hz _ _ (by omega) | exact hz | exact ⟨by omega, by omega⟩ | exact hm | exact hcz | exact ⟨by omega, by omega⟩ | exact hb1r)) gX4_generation_X4_in rfl ndX4_in ⟨Nat.le_of_ble_eq_true rfl, Nat.le_of_ble_eq_true rfl⟩ rfl rfl (Nat.le_of_ble_eq_true rfl) dX4_generation_16 ⟨Nat.le_of_ble_eq_true rfl, Nat.le_of_ble_eq_true rfl⟩ (fun x H locs hpost hP hD hS => ?_)
    subst hpost
    refine z_ifb_ne (tgt := 24) hx hb dX4_generation_19 (by decide) (fun c_19 => ?_) (fun c_19 => ?_)
    · refine lv_iload_n hx hb dX4_generation_24 rfl (lv_at hl 3 rfl) ?_
      by_cases sw_25_0 : k = 0
      · refine lv_tableIn (off := 39) (tgt := 64) hx hb dX4_generation_25 (by rw [toInt_iI ⟨by omega, by omega⟩]; omega) (by rw [toInt_iI ⟨by omega, by omega⟩]; omega) (by rw [toInt_iI ⟨by omega, by omega⟩, sw_25_0]; rfl) (by decide) ?_
        refine lv_aload_n hx hb dX4_generation_64 rfl (lv_at hl 0 rfl) ?_
        refine lv_iload_n hx hb dX4_generation_65 rfl (lv_at hl 1 rfl) ?_
        refine lv_iload_n hx hb dX4_generation_66 rfl (lv_at hl 2 rfl) ?_
        refine lv_iconst (v := iI 1) hx hb dX4_generation_67 (by decide) ?_
        refine z_callV0 (ci := 4) (qk := 0) (As := [.int (iI g), .int (iI pl), .int (iI 1)]) (rest := []) hx hb hml hown hts hK hA hl.1 hP hD hS (c_X4_gen l E q z pa sl sv sp pd od pm ty om st wr g pl 1  (by first | omega | exact hz _ _ (by omega) | exact hz | exact ⟨by omega, by omega⟩ | exact hm | exact hcz | exact ⟨by omega, by omega⟩ | exact hb1r) (by first | omega | exact hz _ _ (by omega) | exact hz | exact ⟨by omega, by omega⟩ | exact hm | exact hcz | exact ⟨by omega, by omega⟩ | exact hb1r)) gX4_generation_X4_gen rfl ndX4_gen ⟨Nat.le_of_ble_eq_true rfl, Nat.le_of_ble_eq_true rfl⟩ rfl rfl rfl rfl rfl (Nat.le_of_ble_eq_true rfl) dX4_generation_68 ⟨Nat.le_of_ble_eq_true rfl, Nat.le_of_ble_eq_true rfl⟩ (fun x u H locs hpost hP hD hS => ?_)
        subst hpost
        have hP : va_P E.1 vwCl (wM E q z pa sl sv sp pd od pm ty om st wr) H := hP
        have hD : va_D A (wM E q z pa sl sv sp pd od pm ty om st wr) := hD
        exact z_iret hx hb hr hlocks hK hS () (by (repeat (first | with_reducible rfl | rw [if_pos (by omega)] | rw [if_neg (by omega)]))) hP hD dX4_generation_71
      by_cases sw_25_1 : k = 1
      · refine lv_tableIn (off := 47) (tgt := 72) hx hb dX4_generation_25 (by rw [toInt_iI ⟨by omega, by omega⟩]; omega) (by rw [toInt_iI ⟨by omega, by omega⟩]; omega) (by rw [toInt_iI ⟨by omega, by omega⟩, sw_25_1]; rfl) (by decide) ?_
        refine lv_aload_n hx hb dX4_generation_72 rfl (lv_at hl 0 rfl) ?_
        refine lv_iload_n hx hb dX4_generation_73 rfl (lv_at hl 1 rfl) ?_
        refine lv_iload_n hx hb dX4_generation_74 rfl (lv_at hl 2 rfl) ?_
        refine lv_iconst (v := iI 2) hx hb dX4_generation_75 (by decide) ?_
        refine z_callV0 (ci := 4) (qk := 0) (As := [.int (iI g), .int (iI pl), .int (iI 2)]) (rest := []) hx hb hml hown hts hK hA hl.1 hP hD hS (c_X4_gen l E q z pa sl sv sp pd od pm ty om st wr g pl 2  (by first | omega | exact hz _ _ (by omega) | exact hz | exact ⟨by omega, by omega⟩ | exact hm | exact hcz | exact ⟨by omega, by omega⟩ | exact hb1r) (by first | omega | exact hz _ _ (by omega) | exact hz | exact ⟨by omega, by omega⟩ | exact hm | exact hcz | exact ⟨by omega, by omega⟩ | exact hb1r)) gX4_generation_X4_gen rfl ndX4_gen ⟨Nat.le_of_ble_eq_true rfl, Nat.le_of_ble_eq_true rfl⟩ rfl rfl rfl rfl rfl (Nat.le_of_ble_eq_true rfl) dX4_generation_76 ⟨Nat.le_of_ble_eq_true rfl, Nat.le_of_ble_eq_true rfl⟩ (fun x u H locs hpost hP hD hS => ?_)
        subst hpost
        have hP : va_P E.1 vwCl (wM E q z pa sl sv sp pd od pm ty om st wr) H := hP
        have hD : va_D A (wM E q z pa sl sv sp pd od pm ty om st wr) := hD
        exact z_iret hx hb hr hlocks hK hS () (by (repeat (first | with_reducible rfl | rw [if_pos (by omega)] | rw [if_neg (by omega)]))) hP hD dX4_generation_79
      by_cases sw_25_2 : k = 2
      · refine lv_tableIn (off := 55) (tgt := 80) hx hb dX4_generation_25 (by rw [toInt_iI ⟨by omega, by omega⟩]; omega) (by rw [toInt_iI ⟨by omega, by omega⟩]; omega) (by rw [toInt_iI ⟨by omega, by omega⟩, sw_25_2]; rfl) (by decide) ?_
        refine lv_aload_n hx hb dX4_generation_80 rfl (lv_at hl 0 rfl) ?_
        refine lv_iload_n hx hb dX4_generation_81 rfl (lv_at hl 1 rfl) ?_
        refine lv_iload_n hx hb dX4_generation_82 rfl (lv_at hl 2 rfl) ?_
        refine z_callV0 (ci := 4) (qk := 0) (As := [.int (iI g), .int (iI pl)]) (rest := []) hx hb hml hown hts hK hA hl.1 hP hD hS (c_X4_isHole l E q z pa sl sv sp pd od pm ty om st wr g pl  (by first | omega | exact hz _ _ (by omega) | exact hz | exact ⟨by omega, by omega⟩ | exact hm | exact hcz | exact ⟨by omega, by omega⟩ | exact hb1r) (by first | omega | exact hz _ _ (by omega) | exact hz | exact ⟨by omega, by omega⟩ | exact hm | exact hcz | exact ⟨by omega, by omega⟩ | exact hb1r) (by first | omega | exact hz _ _ (by omega) | exact hz | exact ⟨by omega, by omega⟩ | exact hm | exact hcz | exact ⟨by omega, by omega⟩ | exact hb1r)) gX4_generation_X4_isHole rfl ndX4_isHole ⟨Nat.le_of_ble_eq_true rfl, Nat.le_of_ble_eq_true rfl⟩ rfl rfl rfl rfl rfl (Nat.le_of_ble_eq_true rfl) dX4_generation_83 ⟨Nat.le_of_ble_eq_true rfl, Nat.le_of_ble_eq_true rfl⟩ (fun x u H locs hpost hP hD hS => ?_)
        subst hpost
        have hP : va_P E.1 vwCl (wM E q z pa sl sv sp pd od pm ty om st wr) H := hP
        have hD : va_D A (wM E q z pa sl sv sp pd od pm ty om st wr) := hD
        refine z_ifb_eq (tgt := 93) hx hb dX4_generation_86 (by decide) (fun c_86 => ?_) (fun c_86 => ?_)
        · refine lv_iconst (v := iI 0) hx hb dX4_generation_93 (by decide) ?_
          exact z_iret hx hb hr hlocks hK hS () (by (repeat (first | with_reducible rfl | rw [if_pos (by omega)] | rw [if_neg (by omega)]))) hP hD dX4_generation_94
        · refine lv_iconst (v := iI 1) hx hb dX4_generation_89 (by decide) ?_
          refine lv_goto (tgt := 94) hx hb dX4_generation_90 (by decide) ?_
          exact z_iret hx hb hr hlocks hK hS () (by (repeat (first | with_reducible rfl | rw [if_pos (by omega)] | rw [if_neg (by omega)]))) hP hD dX4_generation_94
      by_cases sw_25_3 : k = 3
      · refine lv_tableIn (off := 70) (tgt := 95) hx hb dX4_generation_25 (by rw [toInt_iI ⟨by omega, by omega⟩]; omega) (by rw [toInt_iI ⟨by omega, by omega⟩]; omega) (by rw [toInt_iI ⟨by omega, by omega⟩, sw_25_3]; rfl) (by decide) ?_
        refine lv_aload_n hx hb dX4_generation_95 rfl (lv_at hl 0 rfl) ?_
        refine lv_iload_n hx hb dX4_generation_96 rfl (lv_at hl 1 rfl) ?_
        refine lv_iload_n hx hb dX4_generation_97 rfl (lv_at hl 2 rfl) ?_
        refine lv_iconst (v := iI 3) hx hb dX4_generation_98 (by decide) ?_
        refine z_callV0 (ci := 4) (qk := 0) (As := [.int (iI g), .int (iI pl), .int (iI 3)]) (rest := []) hx hb hml hown hts hK hA hl.1 hP hD hS (c_X4_gen l E q z pa sl sv sp pd od pm ty om st wr g pl 3  (by first | omega | exact hz _ _ (by omega) | exact hz | exact ⟨by omega, by omega⟩ | exact hm | exact hcz | exact ⟨by omega, by omega⟩ | exact hb1r) (by first | omega | exact hz _ _ (by omega) | exact hz | exact ⟨by omega, by omega⟩ | exact hm | exact hcz | exact ⟨by omega, by omega⟩ | exact hb1r)) gX4_generation_X4_gen rfl ndX4_gen ⟨Nat.le_of_ble_eq_true rfl, Nat.le_of_ble_eq_true rfl⟩ rfl rfl rfl rfl rfl (Nat.le_of_ble_eq_true rfl) dX4_generation_99 ⟨Nat.le_of_ble_eq_true rfl, Nat.le_of_ble_eq_true rfl⟩ (fun x u H locs hpost hP hD hS => ?_)
        subst hpost
        have hP : va_P E.1 vwCl (wM E q z pa sl sv sp pd od pm ty om st wr) H := hP
        have hD : va_D A (wM E q z pa sl sv sp pd od pm ty om st wr) := hD
        exact z_iret hx hb hr hlocks hK hS () (by (repeat (first | with_reducible rfl | rw [if_pos (by omega)] | rw [if_neg (by omega)]))) hP hD dX4_generation_102
      by_cases sw_25_4 : k = 4
      · refine lv_tableIn (off := 78) (tgt := 103) hx hb dX4_generation_25 (by rw [toInt_iI ⟨by omega, by omega⟩]; omega) (by rw [toInt_iI ⟨by omega, by omega⟩]; omega) (by rw [toInt_iI ⟨by omega, by omega⟩, sw_25_4]; rfl) (by decide) ?_
        refine lv_aload_n hx hb dX4_generation_103 rfl (lv_at hl 0 rfl) ?_
        refine lv_iload_n hx hb dX4_generation_104 rfl (lv_at hl 1 rfl) ?_
        refine lv_iload_n hx hb dX4_generation_105 rfl (lv_at hl 2 rfl) ?_
        refine lv_iconst (v := iI 4) hx hb dX4_generation_106 (by decide) ?_
        refine z_callV0 (ci := 4) (qk := 0) (As := [.int (iI g), .int (iI pl), .int (iI 4)]) (rest := []) hx hb hml hown hts hK hA hl.1 hP hD hS (c_X4_gen l E q z pa sl sv sp pd od pm ty om st wr g pl 4  (by first | omega | exact hz _ _ (by omega) | exact hz | exact ⟨by omega, by omega⟩ | exact hm | exact hcz | exact ⟨by omega, by omega⟩ | exact hb1r) (by first | omega | exact hz _ _ (by omega) | exact hz | exact ⟨by omega, by omega⟩ | exact hm | exact hcz | exact ⟨by omega, by omega⟩ | exact hb1r)) gX4_generation_X4_gen rfl ndX4_gen ⟨Nat.le_of_ble_eq_true rfl, Nat.le_of_ble_eq_true rfl⟩ rfl rfl rfl rfl rfl (Nat.le_of_ble_eq_true rfl) dX4_generation_107 ⟨Nat.le_of_ble_eq_true rfl, Nat.le_of_ble_eq_true rfl⟩ (fun x u H locs hpost hP hD hS => ?_)
        subst hpost
        have hP : va_P E.1 vwCl (wM E q z pa sl sv sp pd od pm ty om st wr) H := hP
        have hD : va_D A (wM E q z pa sl sv sp pd od pm ty om st wr) := hD
        exact z_iret hx hb hr hlocks hK hS () (by (repeat (first | with_reducible rfl | rw [if_pos (by omega)] | rw [if_neg (by omega)]))) hP hD dX4_generation_110
      by_cases sw_25_5 : k = 5
      · refine lv_tableIn (off := 86) (tgt := 111) hx hb dX4_generation_25 (by rw [toInt_iI ⟨by omega, by omega⟩]; omega) (by rw [toInt_iI ⟨by omega, by omega⟩]; omega) (by rw [toInt_iI ⟨by omega, by omega⟩, sw_25_5]; rfl) (by decide) ?_
        refine lv_aload_n hx hb dX4_generation_111 rfl (lv_at hl 0 rfl) ?_
        refine lv_iload_n hx hb dX4_generation_112 rfl (lv_at hl 1 rfl) ?_
        refine lv_iload_n hx hb dX4_generation_113 rfl (lv_at hl 2 rfl) ?_
        refine z_callV0 (ci := 4) (qk := 0) (As := [.int (iI g), .int (iI pl)]) (rest := []) hx hb hml hown hts hK hA hl.1 hP hD hS (c_X4_nameOf l E q z pa sl sv sp pd od pm ty om st wr g pl  (by first | omega | exact hz _ _ (by omega) | exact hz | exact ⟨by omega, by omega⟩ | exact hm | exact hcz | exact ⟨by omega, by omega⟩ | exact hb1r) (by first | omega | exact hz _ _ (by omega) | exact hz | exact ⟨by omega, by omega⟩ | exact hm | exact hcz | exact ⟨by omega, by omega⟩ | exact hb1r) (by first | omega | exact hz _ _ (by omega) | exact hz | exact ⟨by omega, by omega⟩ | exact hm | exact hcz | exact ⟨by omega, by omega⟩ | exact hb1r) (by first | omega | exact hz _ _ (by omega) | exact hz | exact ⟨by omega, by omega⟩ | exact hm | exact hcz | exact ⟨by omega, by omega⟩ | exact hb1r) (by first | omega | exact hz _ _ (by omega) | exact hz | exact ⟨by omega, by omega⟩ | exact hm | exact hcz | exact ⟨by omega, by omega⟩ | exact hb1r)) gX4_generation_X4_nameOf rfl ndX4_nameOf ⟨Nat.le_of_ble_eq_true rfl, Nat.le_of_ble_eq_true rfl⟩ rfl rfl rfl rfl rfl (Nat.le_of_ble_eq_true rfl) dX4_generation_114 ⟨Nat.le_of_ble_eq_true rfl, Nat.le_of_ble_eq_true rfl⟩ (fun x u H locs hpost hP hD hS => ?_)
        subst hpost
        have hP : va_P E.1 vwCl (wM E q z pa sl sv sp pd od pm ty om st wr) H := hP
        have hD : va_D A (wM E q z pa sl sv sp pd od pm ty om st wr) := hD
        exact z_iret hx hb hr hlocks hK hS () (by (repeat (first | with_reducible rfl | rw [if_pos (by omega)] | rw [if_neg (by omega)]))) hP hD dX4_generation_117
      refine lv_tableOut (tgt := 118) hx hb dX4_generation_25 (by rw [toInt_iI ⟨by omega, by omega⟩]; omega) (by decide) ?_
      refine lv_bipush (v := iI (-2)) hx hb dX4_generation_118 (by decide) ?_
      exact z_iret hx hb hr hlocks hK hS () (by (repeat (first | with_reducible rfl | rw [if_pos (by omega)] | rw [if_neg (by omega)]))) hP hD dX4_generation_120
    · refine lv_iconst (v := iI (-1)) hx hb dX4_generation_22 (by decide) ?_
      exact z_iret hx hb hr hlocks hK hS () (by (repeat (first | with_reducible rfl | rw [if_pos (by omega)] | rw [if_neg (by omega)]))) hP hD dX4_generation_23

theorem ndX4_named : yX4_named.cls = RX4 ∧ yX4_named.cls ≠ "java/lang/invoke/MethodHandle" ∧ yX4_named.cls ≠ "java/lang/invoke/VarHandle" ∧ (parseMethodDescriptor yX4_named.desc).map (fun d => d.parameters.length) = some 2 := by decide +kernel
set_option maxRecDepth 100000 in
set_option maxHeartbeats 400000 in
theorem c_X4_named (l : Launch) (E : zE) (q : Nat → Nat) (z pa sl sv sp pd od : Int → Int) (pm ty om st wr : Int) (g : Int) (n : Int) (h0 : rg g) (h1 : rg n) (h2 : MI z) : zF l E yX4_named wsX4_named 4 92 [.ref (q 0), .int (iI g), .int (iI n)] (wM E q z pa sl sv sp pd od pm ty om st wr) (if ¬ (0 ≤ g ∧ g ≤ 5) then -1 else if ¬ (-7 ≤ n ∧ n ≤ 1) then -2 else if mTold z g n = -6 then -6 else zg z g (15 + 5 * (mTold z g n) + 1)) (wM E q z pa sl sv sp pd od pm ty om st wr) := by
  obtain ⟨hz, hmi, hb1, hb2, hb6⟩ := id h2
  have hm : AG z := fun g a b => (hmi g a b).1
  have hb1r : rg (z 1) := by omega
  refine zC_of (cc := cX4_named) (maxL := 4) (by decide) rfl (Nat.le_of_ble_eq_true rfl) ?_
  intro p e s m below meth c ls A hx hb hr hts hown hlocks hml hK hA hS hP hD hl
  have hown : s.vm.findClass RX4 = some m.cls := hown
  have hl : lv_has ls 4 [(0, .ref (q 0)), (1, .int (iI g)), (2, .int (iI n))] := hl
  refine lv_iload_n hx hb dX4_named_0 rfl (lv_at hl 1 rfl) ?_
  refine z_callS0 (As := [.int (iI g)]) (rest := []) hx hb hml hown hts hK hA hl.1 hP hD hS (c_X4_isGroup l E  g  (by first | omega | exact hz _ _ (by omega) | exact hz | exact ⟨by omega, by omega⟩ | exact hm | exact hcz | exact ⟨by omega, by omega⟩ | exact hb1r)) gX4_named_X4_isGroup rfl ndX4_isGroup ⟨Nat.le_of_ble_eq_true rfl, Nat.le_of_ble_eq_true rfl⟩ rfl rfl (Nat.le_of_ble_eq_true rfl) dX4_named_1 ⟨Nat.le_of_ble_eq_true rfl, Nat.le_of_ble_eq_true rfl⟩ (fun x H locs hpost hP hD hS => ?_)
  subst hpost
  refine z_ifb_ne (tgt := 9) hx hb dX4_named_4 (by decide) (fun c_4 => ?_) (fun c_4 => ?_)
  · refine lv_iload_n hx hb dX4_named_9 rfl (lv_at hl 2 rfl) ?_
    refine z_callS0 (As := [.int (iI n)]) (rest := []) hx hb hml hown hts hK hA hl.1 hP hD hS (c_X4_isName l E  n  (by first | omega | exact hz _ _ (by omega) | exact hz | exact ⟨by omega, by omega⟩ | exact hm | exact hcz | exact ⟨by omega, by omega⟩ | exact hb1r)) gX4_named_X4_isName rfl ndX4_isName ⟨Nat.le_of_ble_eq_true rfl, Nat.le_of_ble_eq_true rfl⟩ rfl rfl (Nat.le_of_ble_eq_true rfl) dX4_named_10 ⟨Nat.le_of_ble_eq_true rfl, Nat.le_of_ble_eq_true rfl⟩ (fun x H locs hpost hP hD hS => ?_)
    subst hpost
    refine z_ifb_ne (tgt := 19) hx hb dX4_named_13 (by decide) (fun c_13 => ?_) (fun c_13 => ?_)
    · have hgi := hmi g (by omega) (by omega)
      have ht := mTold_rg (z := z) (g := g) (n := n) hgi.1.1
      refine lv_aload_n hx hb dX4_named_19 rfl (lv_at hl 0 rfl) ?_
      refine lv_iload_n hx hb dX4_named_20 rfl (lv_at hl 1 rfl) ?_
      refine lv_iload_n hx hb dX4_named_21 rfl (lv_at hl 2 rfl) ?_
      refine z_callV0 (ci := 4) (qk := 0) (As := [.int (iI g), .int (iI n)]) (rest := []) hx hb hml hown hts hK hA hl.1 hP hD hS (c_X4_told l E q z pa sl sv sp pd od pm ty om st wr g n  (by first | omega | exact hz _ _ (by omega) | exact hz | exact ⟨by omega, by omega⟩ | exact hm | exact hcz | exact ⟨by omega, by omega⟩ | exact hb1r) (by first | omega | exact hz _ _ (by omega) | exact hz | exact ⟨by omega, by omega⟩ | exact hm | exact hcz | exact ⟨by omega, by omega⟩ | exact hb1r) (by first | omega | exact hz _ _ (by omega) | exact hz | exact ⟨by omega, by omega⟩ | exact hm | exact hcz | exact ⟨by omega, by omega⟩ | exact hb1r) (by first | omega | exact hz _ _ (by omega) | exact hz | exact ⟨by omega, by omega⟩ | exact hm | exact hcz | exact ⟨by omega, by omega⟩ | exact hb1r) (by first | omega | exact hz _ _ (by omega) | exact hz | exact ⟨by omega, by omega⟩ | exact hm | exact hcz | exact ⟨by omega, by omega⟩ | exact hb1r)) gX4_named_X4_told rfl ndX4_told ⟨Nat.le_of_ble_eq_true rfl, Nat.le_of_ble_eq_true rfl⟩ rfl rfl rfl rfl rfl (Nat.le_of_ble_eq_true rfl) dX4_named_22 ⟨Nat.le_of_ble_eq_true rfl, Nat.le_of_ble_eq_true rfl⟩ (fun x u H locs hpost hP hD hS => ?_)
      subst hpost
      have hP : va_P E.1 vwCl (wM E q z pa sl sv sp pd od pm ty om st wr) H := hP
      have hD : va_D A (wM E q z pa sl sv sp pd od pm ty om st wr) := hD
      refine lv_istore_n (lv' := [(3, .int (iI (mTold z g n))), (0, .ref (q 0)), (1, .int (iI g)), (2, .int (iI n))]) hx hb dX4_named_25 rfl hl (by decide) rfl (fun ls hl => ?_)
      refine lv_iload_n hx hb dX4_named_26 rfl (lv_at hl 0 rfl) ?_
      refine lv_bipush (v := iI (-6)) hx hb dX4_named_27 (by decide) ?_
      refine z_icmp_ne (tgt := 37) hx hb dX4_named_29 (by decide) ⟨by first | omega | exact (hz _ _ (by omega)).1 | exact (hz _ _ (by omega)).2, by first | omega | exact (hz _ _ (by omega)).1 | exact (hz _ _ (by omega)).2⟩ ⟨by first | omega | exact (hz _ _ (by omega)).1 | exact (hz _ _ (by omega)).2, by first | omega | exact (hz _ _ (by omega)).1 | exact (hz _ _ (by omega)).2⟩ (fun c_29 => ?_) (fun c_29 => ?_)
      · refine lv_aload_n hx hb dX4_named_37 rfl (lv_at hl 1 rfl) ?_
        refine lv_iload_n hx hb dX4_named_38 rfl (lv_at hl 2 rfl) ?_
        refine lv_iload_n hx hb dX4_named_39 rfl (lv_at hl 0 rfl) ?_
        refine lv_iconst (v := iI 1) hx hb dX4_named_40 (by decide) ?_
        refine z_callV0 (ci := 4) (qk := 0) (As := [.int (iI g), .int (iI (mTold z g n)), .int (iI 1)]) (rest := []) hx hb hml hown hts hK hA hl.1 hP hD hS (c_X4_gen l E q z pa sl sv sp pd od pm ty om st wr g (mTold z g n) 1  (by first | omega | exact hz _ _ (by omega) | exact hz | exact ⟨by omega, by omega⟩ | exact hm | exact hcz | exact ⟨by omega, by omega⟩ | exact hb1r) (by first | omega | exact hz _ _ (by omega) | exact hz | exact ⟨by omega, by omega⟩ | exact hm | exact hcz | exact ⟨by omega, by omega⟩ | exact hb1r)) gX4_named_X4_gen rfl ndX4_gen ⟨Nat.le_of_ble_eq_true rfl, Nat.le_of_ble_eq_true rfl⟩ rfl rfl rfl rfl rfl (Nat.le_of_ble_eq_true rfl) dX4_named_41 ⟨Nat.le_of_ble_eq_true rfl, Nat.le_of_ble_eq_true rfl⟩ (fun x u H locs hpost hP hD hS => ?_)
        subst hpost
        have hP : va_P E.1 vwCl (wM E q z pa sl sv sp pd od pm ty om st wr) H := hP
        have hD : va_D A (wM E q z pa sl sv sp pd od pm ty om st wr) := hD
        exact z_iret hx hb hr hlocks hK hS () (by (repeat (first | with_reducible rfl | rw [if_pos (by omega)] | rw [if_neg (by omega)]))) hP hD dX4_named_44
      · refine lv_bipush (v := iI (-6)) hx hb dX4_named_32 (by decide) ?_
        refine lv_goto (tgt := 44) hx hb dX4_named_34 (by decide) ?_
        exact z_iret hx hb hr hlocks hK hS () (by (repeat (first | with_reducible rfl | rw [if_pos (by omega)] | rw [if_neg (by omega)]))) hP hD dX4_named_44
    · refine lv_bipush (v := iI (-2)) hx hb dX4_named_16 (by decide) ?_
      exact z_iret hx hb hr hlocks hK hS () (by (repeat (first | with_reducible rfl | rw [if_pos (by omega)] | rw [if_neg (by omega)]))) hP hD dX4_named_18
  · refine lv_iconst (v := iI (-1)) hx hb dX4_named_7 (by decide) ?_
    exact z_iret hx hb hr hlocks hK hS () (by (repeat (first | with_reducible rfl | rw [if_pos (by omega)] | rw [if_neg (by omega)]))) hP hD dX4_named_8

theorem ndX4_count : yX4_count.cls = RX4 ∧ yX4_count.cls ≠ "java/lang/invoke/MethodHandle" ∧ yX4_count.cls ≠ "java/lang/invoke/VarHandle" ∧ (parseMethodDescriptor yX4_count.desc).map (fun d => d.parameters.length) = some 1 := by decide +kernel
set_option maxRecDepth 100000 in
set_option maxHeartbeats 400000 in
theorem c_X4_count (l : Launch) (E : zE) (q : Nat → Nat) (z pa sl sv sp pd od : Int → Int) (pm ty om st wr : Int) (k : Int) (h0 : rg k) (h1 : MI z) : zF l E yX4_count wsX4_count 6 134 [.ref (q 0), .int (iI k)] (wM E q z pa sl sv sp pd od pm ty om st wr) (if k = 0 then z 0 else if k = 1 then z 1 else if k = 2 then z 3 else if k = 3 then mWholes z else if k = 4 then mAllHoles z else if k = 5 then z 4 else if k = 6 then z 5 else if k = 7 then mMany7 z else if k = 8 then ty else if k = 9 then pm else -2) (wM E q z pa sl sv sp pd od pm ty om st wr) := by
  obtain ⟨hz, hmi, hb1, hb2, hb6⟩ := id h1
  have hm : AG z := fun g a b => (hmi g a b).1
  have hb1r : rg (z 1) := by omega
  refine zC_of (cc := cX4_count) (maxL := 2) (by decide) rfl (Nat.le_of_ble_eq_true rfl) ?_
  intro p e s m below meth c ls A hx hb hr hts hown hlocks hml hK hA hS hP hD hl
  have hown : s.vm.findClass RX4 = some m.cls := hown
  have hl : lv_has ls 2 [(0, .ref (q 0)), (1, .int (iI k))] := hl
  have hinX4 : ∀ v ∈ u_ws RX4 TX4 12, v ∈ wsX4_count := by decide +kernel
  have hf_7 := hts (.fieldLink RX4 7 "GenerationNamesModel" "z" "[I") (by decide +kernel)
  have hf_151 := hts (.fieldLink RX4 151 "GenerationNamesModel" "typed" "I") (by decide +kernel)
  have hf_49 := hts (.fieldLink RX4 49 "GenerationNamesModel" "pastMany" "I") (by decide +kernel)
  refine lv_iload_n hx hb dX4_count_0 rfl (lv_at hl 1 rfl) ?_
  by_cases sw_1_0 : k = 0
  · refine lv_tableIn (off := 55) (tgt := 56) hx hb dX4_count_1 (by rw [toInt_iI ⟨by omega, by omega⟩]; omega) (by rw [toInt_iI ⟨by omega, by omega⟩]; omega) (by rw [toInt_iI ⟨by omega, by omega⟩, sw_1_0]; rfl) (by decide) ?_
    refine lv_aload_n hx hb dX4_count_56 rfl (lv_at hl 0 rfl) ?_
    refine va_get (D := E.1) (cl := vwCl) (ci := 4) (v := .ref (q 1)) (C := RX4) (T := TX4) (N := 12) hx hb hts hinX4 hown hK hP 0 rfl rfl 0 (by decide) hf_7 (fun _ h => h) rfl dX4_count_57 ?_
    refine lv_iconst (v := iI 0) hx hb dX4_count_60 (by decide) ?_
    refine z_iald (D := E.1) (cl := vwCl) (tys := zT E) (f := z) hx hb hK hP 1 0 rfl rfl (by omega) (by omega) (by omega) dX4_count_61 ?_
    exact z_iret hx hb hr hlocks hK hS () (by (repeat (first | with_reducible rfl | rw [if_pos (by omega)] | rw [if_neg (by omega)]))) hP hD dX4_count_62
  by_cases sw_1_1 : k = 1
  · refine lv_tableIn (off := 62) (tgt := 63) hx hb dX4_count_1 (by rw [toInt_iI ⟨by omega, by omega⟩]; omega) (by rw [toInt_iI ⟨by omega, by omega⟩]; omega) (by rw [toInt_iI ⟨by omega, by omega⟩, sw_1_1]; rfl) (by decide) ?_
    refine lv_aload_n hx hb dX4_count_63 rfl (lv_at hl 0 rfl) ?_
    refine va_get (D := E.1) (cl := vwCl) (ci := 4) (v := .ref (q 1)) (C := RX4) (T := TX4) (N := 12) hx hb hts hinX4 hown hK hP 0 rfl rfl 0 (by decide) hf_7 (fun _ h => h) rfl dX4_count_64 ?_
    refine lv_iconst (v := iI 1) hx hb dX4_count_67 (by decide) ?_
    refine z_iald (D := E.1) (cl := vwCl) (tys := zT E) (f := z) hx hb hK hP 1 0 rfl rfl (by omega) (by omega) (by omega) dX4_count_68 ?_
    exact z_iret hx hb hr hlocks hK hS () (by (repeat (first | with_reducible rfl | rw [if_pos (by omega)] | rw [if_neg (by omega)]))) hP hD dX4_count_69
  by_cases sw_1_2 : k = 2
  · refine lv_tableIn (off := 69) (tgt := 70) hx hb dX4_count_1 (by rw [toInt_iI ⟨by omega, by omega⟩]; omega) (by rw [toInt_iI ⟨by omega, by omega⟩]; omega) (by rw [toInt_iI ⟨by omega, by omega⟩, sw_1_2]; rfl) (by decide) ?_
    refine lv_aload_n hx hb dX4_count_70 rfl (lv_at hl 0 rfl) ?_
    refine va_get (D := E.1) (cl := vwCl) (ci := 4) (v := .ref (q 1)) (C := RX4) (T := TX4) (N := 12) hx hb hts hinX4 hown hK hP 0 rfl rfl 0 (by decide) hf_7 (fun _ h => h) rfl dX4_count_71 ?_
    refine lv_iconst (v := iI 3) hx hb dX4_count_74 (by decide) ?_
    refine z_iald (D := E.1) (cl := vwCl) (tys := zT E) (f := z) hx hb hK hP 1 0 rfl rfl (by omega) (by omega) (by omega) dX4_count_75 ?_
    exact z_iret hx hb hr hlocks hK hS () (by (repeat (first | with_reducible rfl | rw [if_pos (by omega)] | rw [if_neg (by omega)]))) hP hD dX4_count_76
  by_cases sw_1_3 : k = 3
  · refine lv_tableIn (off := 76) (tgt := 77) hx hb dX4_count_1 (by rw [toInt_iI ⟨by omega, by omega⟩]; omega) (by rw [toInt_iI ⟨by omega, by omega⟩]; omega) (by rw [toInt_iI ⟨by omega, by omega⟩, sw_1_3]; rfl) (by decide) ?_
    refine lv_aload_n hx hb dX4_count_77 rfl (lv_at hl 0 rfl) ?_
    refine z_callV0 (ci := 4) (qk := 0) (As := []) (rest := []) hx hb hml hown hts hK hA hl.1 hP hD hS (c_X4_wholes l E q z pa sl sv sp pd od pm ty om st wr   (by first | omega | exact hz _ _ (by omega) | exact hz | exact ⟨by omega, by omega⟩ | exact hm | exact hcz | exact ⟨by omega, by omega⟩ | exact hb1r) (by first | omega | exact hz _ _ (by omega) | exact hz | exact ⟨by omega, by omega⟩ | exact hm | exact hcz | exact ⟨by omega, by omega⟩ | exact hb1r)) gX4_count_X4_wholes rfl ndX4_wholes ⟨Nat.le_of_ble_eq_true rfl, Nat.le_of_ble_eq_true rfl⟩ rfl rfl rfl rfl rfl (Nat.le_of_ble_eq_true rfl) dX4_count_78 ⟨Nat.le_of_ble_eq_true rfl, Nat.le_of_ble_eq_true rfl⟩ (fun x u H locs hpost hP hD hS => ?_)
    subst hpost
    have hP : va_P E.1 vwCl (wM E q z pa sl sv sp pd od pm ty om st wr) H := hP
    have hD : va_D A (wM E q z pa sl sv sp pd od pm ty om st wr) := hD
    exact z_iret hx hb hr hlocks hK hS () (by (repeat (first | with_reducible rfl | rw [if_pos (by omega)] | rw [if_neg (by omega)]))) hP hD dX4_count_81
  by_cases sw_1_4 : k = 4
  · refine lv_tableIn (off := 81) (tgt := 82) hx hb dX4_count_1 (by rw [toInt_iI ⟨by omega, by omega⟩]; omega) (by rw [toInt_iI ⟨by omega, by omega⟩]; omega) (by rw [toInt_iI ⟨by omega, by omega⟩, sw_1_4]; rfl) (by decide) ?_
    refine lv_aload_n hx hb dX4_count_82 rfl (lv_at hl 0 rfl) ?_
    refine z_callV0 (ci := 4) (qk := 0) (As := []) (rest := []) hx hb hml hown hts hK hA hl.1 hP hD hS (c_X4_allHoles l E q z pa sl sv sp pd od pm ty om st wr   (by first | omega | exact hz _ _ (by omega) | exact hz | exact ⟨by omega, by omega⟩ | exact hm | exact hcz | exact ⟨by omega, by omega⟩ | exact hb1r) (by first | omega | exact hz _ _ (by omega) | exact hz | exact ⟨by omega, by omega⟩ | exact hm | exact hcz | exact ⟨by omega, by omega⟩ | exact hb1r)) gX4_count_X4_allHoles rfl ndX4_allHoles ⟨Nat.le_of_ble_eq_true rfl, Nat.le_of_ble_eq_true rfl⟩ rfl rfl rfl rfl rfl (Nat.le_of_ble_eq_true rfl) dX4_count_83 ⟨Nat.le_of_ble_eq_true rfl, Nat.le_of_ble_eq_true rfl⟩ (fun x u H locs hpost hP hD hS => ?_)
    subst hpost
    have hP : va_P E.1 vwCl (wM E q z pa sl sv sp pd od pm ty om st wr) H := hP
    have hD : va_D A (wM E q z pa sl sv sp pd od pm ty om st wr) := hD
    exact z_iret hx hb hr hlocks hK hS () (by (repeat (first | with_reducible rfl | rw [if_pos (by omega)] | rw [if_neg (by omega)]))) hP hD dX4_count_86
  by_cases sw_1_5 : k = 5
  · refine lv_tableIn (off := 86) (tgt := 87) hx hb dX4_count_1 (by rw [toInt_iI ⟨by omega, by omega⟩]; omega) (by rw [toInt_iI ⟨by omega, by omega⟩]; omega) (by rw [toInt_iI ⟨by omega, by omega⟩, sw_1_5]; rfl) (by decide) ?_
    refine lv_aload_n hx hb dX4_count_87 rfl (lv_at hl 0 rfl) ?_
    refine va_get (D := E.1) (cl := vwCl) (ci := 4) (v := .ref (q 1)) (C := RX4) (T := TX4) (N := 12) hx hb hts hinX4 hown hK hP 0 rfl rfl 0 (by decide) hf_7 (fun _ h => h) rfl dX4_count_88 ?_
    refine lv_iconst (v := iI 4) hx hb dX4_count_91 (by decide) ?_
    refine z_iald (D := E.1) (cl := vwCl) (tys := zT E) (f := z) hx hb hK hP 1 0 rfl rfl (by omega) (by omega) (by omega) dX4_count_92 ?_
    exact z_iret hx hb hr hlocks hK hS () (by (repeat (first | with_reducible rfl | rw [if_pos (by omega)] | rw [if_neg (by omega)]))) hP hD dX4_count_93
  by_cases sw_1_6 : k = 6
  · refine lv_tableIn (off := 93) (tgt := 94) hx hb dX4_count_1 (by rw [toInt_iI ⟨by omega, by omega⟩]; omega) (by rw [toInt_iI ⟨by omega, by omega⟩]; omega) (by rw [toInt_iI ⟨by omega, by omega⟩, sw_1_6]; rfl) (by decide) ?_
    refine lv_aload_n hx hb dX4_count_94 rfl (lv_at hl 0 rfl) ?_
    refine va_get (D := E.1) (cl := vwCl) (ci := 4) (v := .ref (q 1)) (C := RX4) (T := TX4) (N := 12) hx hb hts hinX4 hown hK hP 0 rfl rfl 0 (by decide) hf_7 (fun _ h => h) rfl dX4_count_95 ?_
    refine lv_iconst (v := iI 5) hx hb dX4_count_98 (by decide) ?_
    refine z_iald (D := E.1) (cl := vwCl) (tys := zT E) (f := z) hx hb hK hP 1 0 rfl rfl (by omega) (by omega) (by omega) dX4_count_99 ?_
    exact z_iret hx hb hr hlocks hK hS () (by (repeat (first | with_reducible rfl | rw [if_pos (by omega)] | rw [if_neg (by omega)]))) hP hD dX4_count_100
  by_cases sw_1_7 : k = 7
  · refine lv_tableIn (off := 100) (tgt := 101) hx hb dX4_count_1 (by rw [toInt_iI ⟨by omega, by omega⟩]; omega) (by rw [toInt_iI ⟨by omega, by omega⟩]; omega) (by rw [toInt_iI ⟨by omega, by omega⟩, sw_1_7]; rfl) (by decide) ?_
    refine lv_aload_n hx hb dX4_count_101 rfl (lv_at hl 0 rfl) ?_
    refine z_callV0 (ci := 4) (qk := 0) (As := []) (rest := []) hx hb hml hown hts hK hA hl.1 hP hD hS (c_X4_madeMany l E q z pa sl sv sp pd od pm ty om st wr   (by first | omega | exact hz _ _ (by omega) | exact hz | exact ⟨by omega, by omega⟩ | exact hm | exact hcz | exact ⟨by omega, by omega⟩ | exact hb1r) (by first | omega | exact hz _ _ (by omega) | exact hz | exact ⟨by omega, by omega⟩ | exact hm | exact hcz | exact ⟨by omega, by omega⟩ | exact hb1r) (by first | omega | exact hz _ _ (by omega) | exact hz | exact ⟨by omega, by omega⟩ | exact hm | exact hcz | exact ⟨by omega, by omega⟩ | exact hb1r)) gX4_count_X4_madeMany rfl ndX4_madeMany ⟨Nat.le_of_ble_eq_true rfl, Nat.le_of_ble_eq_true rfl⟩ rfl rfl rfl rfl rfl (Nat.le_of_ble_eq_true rfl) dX4_count_102 ⟨Nat.le_of_ble_eq_true rfl, Nat.le_of_ble_eq_true rfl⟩ (fun x u H locs hpost hP hD hS => ?_)
    subst hpost
    have hP : va_P E.1 vwCl (wM E q z pa sl sv sp pd od pm ty om st wr) H := hP
    have hD : va_D A (wM E q z pa sl sv sp pd od pm ty om st wr) := hD
    exact z_iret hx hb hr hlocks hK hS () (by (repeat (first | with_reducible rfl | rw [if_pos (by omega)] | rw [if_neg (by omega)]))) hP hD dX4_count_105
  by_cases sw_1_8 : k = 8
  · refine lv_tableIn (off := 105) (tgt := 106) hx hb dX4_count_1 (by rw [toInt_iI ⟨by omega, by omega⟩]; omega) (by rw [toInt_iI ⟨by omega, by omega⟩]; omega) (by rw [toInt_iI ⟨by omega, by omega⟩, sw_1_8]; rfl) (by decide) ?_
    refine lv_aload_n hx hb dX4_count_106 rfl (lv_at hl 0 rfl) ?_
    refine va_get (D := E.1) (cl := vwCl) (ci := 4) (v := .int (iI ty)) (C := RX4) (T := TX4) (N := 12) hx hb hts hinX4 hown hK hP 0 rfl rfl 7 (by decide) hf_151 (fun _ h => h) rfl dX4_count_107 ?_
    exact z_iret hx hb hr hlocks hK hS () (by (repeat (first | with_reducible rfl | rw [if_pos (by omega)] | rw [if_neg (by omega)]))) hP hD dX4_count_110
  by_cases sw_1_9 : k = 9
  · refine lv_tableIn (off := 110) (tgt := 111) hx hb dX4_count_1 (by rw [toInt_iI ⟨by omega, by omega⟩]; omega) (by rw [toInt_iI ⟨by omega, by omega⟩]; omega) (by rw [toInt_iI ⟨by omega, by omega⟩, sw_1_9]; rfl) (by decide) ?_
    refine lv_aload_n hx hb dX4_count_111 rfl (lv_at hl 0 rfl) ?_
    refine va_get (D := E.1) (cl := vwCl) (ci := 4) (v := .int (iI pm)) (C := RX4) (T := TX4) (N := 12) hx hb hts hinX4 hown hK hP 0 rfl rfl 4 (by decide) hf_49 (fun _ h => h) rfl dX4_count_112 ?_
    exact z_iret hx hb hr hlocks hK hS () (by (repeat (first | with_reducible rfl | rw [if_pos (by omega)] | rw [if_neg (by omega)]))) hP hD dX4_count_115
  refine lv_tableOut (tgt := 116) hx hb dX4_count_1 (by rw [toInt_iI ⟨by omega, by omega⟩]; omega) (by decide) ?_
  refine lv_bipush (v := iI (-2)) hx hb dX4_count_116 (by decide) ?_
  exact z_iret hx hb hr hlocks hK hS () (by (repeat (first | with_reducible rfl | rw [if_pos (by omega)] | rw [if_neg (by omega)]))) hP hD dX4_count_118

theorem ndX4_rolls : yX4_rolls.cls = RX4 ∧ yX4_rolls.cls ≠ "java/lang/invoke/MethodHandle" ∧ yX4_rolls.cls ≠ "java/lang/invoke/VarHandle" ∧ (parseMethodDescriptor yX4_rolls.desc).map (fun d => d.parameters.length) = some 1 := by decide +kernel
set_option maxRecDepth 100000 in
set_option maxHeartbeats 400000 in
theorem c_X4_rolls (l : Launch) (E : zE) (q : Nat → Nat) (z pa sl sv sp pd od : Int → Int) (pm ty om st wr : Int) (g : Int) (h0 : rg g) (h1 : MI z) : zF l E yX4_rolls wsX4_rolls 2 45 [.ref (q 0), .int (iI g)] (wM E q z pa sl sv sp pd od pm ty om st wr) (if ¬ (0 ≤ g ∧ g ≤ 5) then -1 else if zg z g 1 < zg z g 0 then -6 else zg z g (15 + 5 * (zg z g 1 - 1) + 1)) (wM E q z pa sl sv sp pd od pm ty om st wr) := by
  obtain ⟨hz, hmi, hb1, hb2, hb6⟩ := id h1
  have hm : AG z := fun g a b => (hmi g a b).1
  refine zC_of (cc := cX4_rolls) (maxL := 2) (by decide) rfl (Nat.le_of_ble_eq_true rfl) ?_
  intro p e s m below meth c ls A hx hb hr hts hown hlocks hml hK hA hS hP hD hl
  have hown : s.vm.findClass RX4 = some m.cls := hown
  have hl : lv_has ls 2 [(0, .ref (q 0)), (1, .int (iI g))] := hl
  refine lv_iload_n hx hb dX4_rolls_0 rfl (lv_at hl 1 rfl) ?_
  refine z_callS0 (As := [.int (iI g)]) (rest := []) hx hb hml hown hts hK hA hl.1 hP hD hS (c_X4_isGroup l E  g  (by first | omega | exact hz _ _ (by omega) | exact hz | exact ⟨by omega, by omega⟩ | exact hm | exact hcz | exact ⟨by omega, by omega⟩)) gX4_rolls_X4_isGroup rfl ndX4_isGroup ⟨Nat.le_of_ble_eq_true rfl, Nat.le_of_ble_eq_true rfl⟩ rfl rfl (Nat.le_of_ble_eq_true rfl) dX4_rolls_1 ⟨Nat.le_of_ble_eq_true rfl, Nat.le_of_ble_eq_true rfl⟩ (fun x H locs hpost hP hD hS => ?_)
  subst hpost
  refine z_ifb_ne (tgt := 9) hx hb dX4_rolls_4 (by decide) (fun c_4 => ?_) (fun c_4 => ?_)
  · have hgi := hmi g (by omega) (by omega)
    refine lv_aload_n hx hb dX4_rolls_9 rfl (lv_at hl 0 rfl) ?_
    refine lv_iload_n hx hb dX4_rolls_10 rfl (lv_at hl 1 rfl) ?_
    refine z_callV0 (ci := 4) (qk := 0) (As := [.int (iI g)]) (rest := []) hx hb hml hown hts hK hA hl.1 hP hD hS (c_X4_many l E q z pa sl sv sp pd od pm ty om st wr g  (by first | omega | exact hz _ _ (by omega) | exact hz | exact ⟨by omega, by omega⟩ | exact hm | exact hcz | exact ⟨by omega, by omega⟩)) gX4_rolls_X4_many rfl ndX4_many ⟨Nat.le_of_ble_eq_true rfl, Nat.le_of_ble_eq_true rfl⟩ rfl rfl rfl rfl rfl (Nat.le_of_ble_eq_true rfl) dX4_rolls_11 ⟨Nat.le_of_ble_eq_true rfl, Nat.le_of_ble_eq_true rfl⟩ (fun x u H locs hpost hP hD hS => ?_)
    subst hpost
    have hP : va_P E.1 vwCl (wM E q z pa sl sv sp pd od pm ty om st wr) H := hP
    have hD : va_D A (wM E q z pa sl sv sp pd od pm ty om st wr) := hD
    refine lv_aload_n hx hb dX4_rolls_14 rfl (lv_at hl 0 rfl) ?_
    refine lv_iload_n hx hb dX4_rolls_15 rfl (lv_at hl 1 rfl) ?_
    refine lv_iconst (v := iI 0) hx hb dX4_rolls_16 (by decide) ?_
    refine z_callV0 (ci := 4) (qk := 0) (As := [.int (iI g), .int (iI 0)]) (rest := [.int (iI (zg z g 1))]) hx hb hml hown hts hK hA hl.1 hP hD hS (c_X4_of l E q z pa sl sv sp pd od pm ty om st wr g 0  (by first | omega | exact hz _ _ (by omega) | exact hz | exact ⟨by omega, by omega⟩ | exact hm | exact hcz | exact ⟨by omega, by omega⟩) (by first | omega | exact hz _ _ (by omega) | exact hz | exact ⟨by omega, by omega⟩ | exact hm | exact hcz | exact ⟨by omega, by omega⟩)) gX4_rolls_X4_of rfl ndX4_of ⟨Nat.le_of_ble_eq_true rfl, Nat.le_of_ble_eq_true rfl⟩ rfl rfl rfl rfl rfl (Nat.le_of_ble_eq_true rfl) dX4_rolls_17 ⟨Nat.le_of_ble_eq_true rfl, Nat.le_of_ble_eq_true rfl⟩ (fun x u H locs hpost hP hD hS => ?_)
    subst hpost
    have hP : va_P E.1 vwCl (wM E q z pa sl sv sp pd od pm ty om st wr) H := hP
    have hD : va_D A (wM E q z pa sl sv sp pd od pm ty om st wr) := hD
    refine z_icmp_ge (tgt := 28) hx hb dX4_rolls_20 (by decide) ⟨by first | omega | exact (hz _ _ (by omega)).1 | exact (hz _ _ (by omega)).2, by first | omega | exact (hz _ _ (by omega)).1 | exact (hz _ _ (by omega)).2⟩ ⟨by first | omega | exact (hz _ _ (by omega)).1 | exact (hz _ _ (by omega)).2, by first | omega | exact (hz _ _ (by omega)).1 | exact (hz _ _ (by omega)).2⟩ (fun c_20 => ?_) (fun c_20 => ?_)
    · refine lv_aload_n hx hb dX4_rolls_28 rfl (lv_at hl 0 rfl) ?_
      refine lv_iload_n hx hb dX4_rolls_29 rfl (lv_at hl 1 rfl) ?_
      refine lv_aload_n hx hb dX4_rolls_30 rfl (lv_at hl 0 rfl) ?_
      refine lv_iload_n hx hb dX4_rolls_31 rfl (lv_at hl 1 rfl) ?_
      refine z_callV0 (ci := 4) (qk := 0) (As := [.int (iI g)]) (rest := [.int (iI g), .ref (q 0)]) hx hb hml hown hts hK hA hl.1 hP hD hS (c_X4_many l E q z pa sl sv sp pd od pm ty om st wr g  (by first | omega | exact hz _ _ (by omega) | exact hz | exact ⟨by omega, by omega⟩ | exact hm | exact hcz | exact ⟨by omega, by omega⟩)) gX4_rolls_X4_many rfl ndX4_many ⟨Nat.le_of_ble_eq_true rfl, Nat.le_of_ble_eq_true rfl⟩ rfl rfl rfl rfl rfl (Nat.le_of_ble_eq_true rfl) dX4_rolls_32 ⟨Nat.le_of_ble_eq_true rfl, Nat.le_of_ble_eq_true rfl⟩ (fun x u H locs hpost hP hD hS => ?_)
      subst hpost
      have hP : va_P E.1 vwCl (wM E q z pa sl sv sp pd od pm ty om st wr) H := hP
      have hD : va_D A (wM E q z pa sl sv sp pd od pm ty om st wr) := hD
      refine lv_iconst (v := iI 1) hx hb dX4_rolls_35 (by decide) ?_
      refine z_isub hx hb dX4_rolls_36 ?_
      refine lv_iconst (v := iI 1) hx hb dX4_rolls_37 (by decide) ?_
      refine z_callV0 (ci := 4) (qk := 0) (As := [.int (iI g), .int (iI ((zg z g 1) - 1)), .int (iI 1)]) (rest := []) hx hb hml hown hts hK hA hl.1 hP hD hS (c_X4_gen l E q z pa sl sv sp pd od pm ty om st wr g ((zg z g 1) - 1) 1  (by first | omega | exact hz _ _ (by omega) | exact hz | exact ⟨by omega, by omega⟩ | exact hm | exact hcz | exact ⟨by omega, by omega⟩) (by first | omega | exact hz _ _ (by omega) | exact hz | exact ⟨by omega, by omega⟩ | exact hm | exact hcz | exact ⟨by omega, by omega⟩)) gX4_rolls_X4_gen rfl ndX4_gen ⟨Nat.le_of_ble_eq_true rfl, Nat.le_of_ble_eq_true rfl⟩ rfl rfl rfl rfl rfl (Nat.le_of_ble_eq_true rfl) dX4_rolls_38 ⟨Nat.le_of_ble_eq_true rfl, Nat.le_of_ble_eq_true rfl⟩ (fun x u H locs hpost hP hD hS => ?_)
      subst hpost
      have hP : va_P E.1 vwCl (wM E q z pa sl sv sp pd od pm ty om st wr) H := hP
      have hD : va_D A (wM E q z pa sl sv sp pd od pm ty om st wr) := hD
      exact z_iret hx hb hr hlocks hK hS () (by (repeat (first | with_reducible rfl | rw [if_pos (by omega)] | rw [if_neg (by omega)]))) hP hD dX4_rolls_41
    · refine lv_bipush (v := iI (-6)) hx hb dX4_rolls_23 (by decide) ?_
      refine lv_goto (tgt := 41) hx hb dX4_rolls_25 (by decide) ?_
      exact z_iret hx hb hr hlocks hK hS () (by (repeat (first | with_reducible rfl | rw [if_pos (by omega)] | rw [if_neg (by omega)]))) hP hD dX4_rolls_41
  · refine lv_iconst (v := iI (-1)) hx hb dX4_rolls_7 (by decide) ?_
    exact z_iret hx hb hr hlocks hK hS () (by (repeat (first | with_reducible rfl | rw [if_pos (by omega)] | rw [if_neg (by omega)]))) hP hD dX4_rolls_8

theorem ndX4_leastKeep : yX4_leastKeep.cls = RX4 ∧ yX4_leastKeep.cls ≠ "java/lang/invoke/MethodHandle" ∧ yX4_leastKeep.cls ≠ "java/lang/invoke/VarHandle" ∧ (parseMethodDescriptor yX4_leastKeep.desc).map (fun d => d.parameters.length) = some 1 := by decide +kernel
set_option maxRecDepth 100000 in
set_option maxHeartbeats 400000 in
theorem c_X4_leastKeep (l : Launch) (E : zE) (q : Nat → Nat) (z pa sl sv sp pd od : Int → Int) (pm ty om st wr : Int) (g : Int) (h0 : rg g) (h1 : MI z) : zF l E yX4_leastKeep wsX4_leastKeep 2 43 [.ref (q 0), .int (iI g)] (wM E q z pa sl sv sp pd od pm ty om st wr) (if ¬ (0 ≤ g ∧ g ≤ 5) then -1 else if zg z g 1 < 1 then 1 else zg z g 1) (wM E q z pa sl sv sp pd od pm ty om st wr) := by
  obtain ⟨hz, hmi, hb1, hb2, hb6⟩ := id h1
  have hm : AG z := fun g a b => (hmi g a b).1
  refine zC_of (cc := cX4_leastKeep) (maxL := 2) (by decide) rfl (Nat.le_of_ble_eq_true rfl) ?_
  intro p e s m below meth c ls A hx hb hr hts hown hlocks hml hK hA hS hP hD hl
  have hown : s.vm.findClass RX4 = some m.cls := hown
  have hl : lv_has ls 2 [(0, .ref (q 0)), (1, .int (iI g))] := hl
  refine lv_iload_n hx hb dX4_leastKeep_0 rfl (lv_at hl 1 rfl) ?_
  refine z_callS0 (As := [.int (iI g)]) (rest := []) hx hb hml hown hts hK hA hl.1 hP hD hS (c_X4_isGroup l E  g  (by first | omega | exact hz _ _ (by omega) | exact hz | exact ⟨by omega, by omega⟩ | exact hm | exact hcz | exact ⟨by omega, by omega⟩)) gX4_leastKeep_X4_isGroup rfl ndX4_isGroup ⟨Nat.le_of_ble_eq_true rfl, Nat.le_of_ble_eq_true rfl⟩ rfl rfl (Nat.le_of_ble_eq_true rfl) dX4_leastKeep_1 ⟨Nat.le_of_ble_eq_true rfl, Nat.le_of_ble_eq_true rfl⟩ (fun x H locs hpost hP hD hS => ?_)
  subst hpost
  refine z_ifb_ne (tgt := 9) hx hb dX4_leastKeep_4 (by decide) (fun c_4 => ?_) (fun c_4 => ?_)
  · have hgi := hmi g (by omega) (by omega)
    refine lv_aload_n hx hb dX4_leastKeep_9 rfl (lv_at hl 0 rfl) ?_
    refine lv_iload_n hx hb dX4_leastKeep_10 rfl (lv_at hl 1 rfl) ?_
    refine z_callV0 (ci := 4) (qk := 0) (As := [.int (iI g)]) (rest := []) hx hb hml hown hts hK hA hl.1 hP hD hS (c_X4_many l E q z pa sl sv sp pd od pm ty om st wr g  (by first | omega | exact hz _ _ (by omega) | exact hz | exact ⟨by omega, by omega⟩ | exact hm | exact hcz | exact ⟨by omega, by omega⟩)) gX4_leastKeep_X4_many rfl ndX4_many ⟨Nat.le_of_ble_eq_true rfl, Nat.le_of_ble_eq_true rfl⟩ rfl rfl rfl rfl rfl (Nat.le_of_ble_eq_true rfl) dX4_leastKeep_11 ⟨Nat.le_of_ble_eq_true rfl, Nat.le_of_ble_eq_true rfl⟩ (fun x u H locs hpost hP hD hS => ?_)
    subst hpost
    have hP : va_P E.1 vwCl (wM E q z pa sl sv sp pd od pm ty om st wr) H := hP
    have hD : va_D A (wM E q z pa sl sv sp pd od pm ty om st wr) := hD
    refine lv_iconst (v := iI 1) hx hb dX4_leastKeep_14 (by decide) ?_
    refine z_icmp_ge (tgt := 22) hx hb dX4_leastKeep_15 (by decide) ⟨by first | omega | exact (hz _ _ (by omega)).1 | exact (hz _ _ (by omega)).2, by first | omega | exact (hz _ _ (by omega)).1 | exact (hz _ _ (by omega)).2⟩ ⟨by first | omega | exact (hz _ _ (by omega)).1 | exact (hz _ _ (by omega)).2, by first | omega | exact (hz _ _ (by omega)).1 | exact (hz _ _ (by omega)).2⟩ (fun c_15 => ?_) (fun c_15 => ?_)
    · refine lv_aload_n hx hb dX4_leastKeep_22 rfl (lv_at hl 0 rfl) ?_
      refine lv_iload_n hx hb dX4_leastKeep_23 rfl (lv_at hl 1 rfl) ?_
      refine z_callV0 (ci := 4) (qk := 0) (As := [.int (iI g)]) (rest := []) hx hb hml hown hts hK hA hl.1 hP hD hS (c_X4_many l E q z pa sl sv sp pd od pm ty om st wr g  (by first | omega | exact hz _ _ (by omega) | exact hz | exact ⟨by omega, by omega⟩ | exact hm | exact hcz | exact ⟨by omega, by omega⟩)) gX4_leastKeep_X4_many rfl ndX4_many ⟨Nat.le_of_ble_eq_true rfl, Nat.le_of_ble_eq_true rfl⟩ rfl rfl rfl rfl rfl (Nat.le_of_ble_eq_true rfl) dX4_leastKeep_24 ⟨Nat.le_of_ble_eq_true rfl, Nat.le_of_ble_eq_true rfl⟩ (fun x u H locs hpost hP hD hS => ?_)
      subst hpost
      have hP : va_P E.1 vwCl (wM E q z pa sl sv sp pd od pm ty om st wr) H := hP
      have hD : va_D A (wM E q z pa sl sv sp pd od pm ty om st wr) := hD
      exact z_iret hx hb hr hlocks hK hS () (by (repeat (first | with_reducible rfl | rw [if_pos (by omega)] | rw [if_neg (by omega)]))) hP hD dX4_leastKeep_27
    · refine lv_iconst (v := iI 1) hx hb dX4_leastKeep_18 (by decide) ?_
      refine lv_goto (tgt := 27) hx hb dX4_leastKeep_19 (by decide) ?_
      exact z_iret hx hb hr hlocks hK hS () (by (repeat (first | with_reducible rfl | rw [if_pos (by omega)] | rw [if_neg (by omega)]))) hP hD dX4_leastKeep_27
  · refine lv_iconst (v := iI (-1)) hx hb dX4_leastKeep_7 (by decide) ?_
    exact z_iret hx hb hr hlocks hK hS () (by (repeat (first | with_reducible rfl | rw [if_pos (by omega)] | rw [if_neg (by omega)]))) hP hD dX4_leastKeep_8

theorem ndX4_wipe : yX4_wipe.cls = RX4 ∧ yX4_wipe.cls ≠ "java/lang/invoke/MethodHandle" ∧ yX4_wipe.cls ≠ "java/lang/invoke/VarHandle" ∧ (parseMethodDescriptor yX4_wipe.desc).map (fun d => d.parameters.length) = some 0 := by decide +kernel
set_option maxRecDepth 100000 in
set_option maxHeartbeats 400000 in
theorem c_X4_wipe (l : Launch) (E : zE) (q : Nat → Nat) (z pa sl sv sp pd od : Int → Int) (pm ty om st wr : Int) : zF l E yX4_wipe wsX4_wipe 0 0 [.ref (q 0)] (wM E q z pa sl sv sp pd od pm ty om st wr) ty (wM E q z pa sl sv sp pd od pm 0 om st wr) := by
  refine zC_of (cc := cX4_wipe) (maxL := 2) (by decide) rfl (Nat.le_of_ble_eq_true rfl) ?_
  intro p e s m below meth c ls A hx hb hr hts hown hlocks hml hK hA hS hP hD hl
  have hown : s.vm.findClass RX4 = some m.cls := hown
  have hl : lv_has ls 2 [(0, .ref (q 0))] := hl
  have hinX4 : ∀ v ∈ u_ws RX4 TX4 12, v ∈ wsX4_wipe := by decide +kernel
  have hf_151 := hts (.fieldLink RX4 151 "GenerationNamesModel" "typed" "I") (by decide +kernel)
  refine lv_aload_n hx hb dX4_wipe_0 rfl (lv_at hl 0 rfl) ?_
  refine va_get (D := E.1) (cl := vwCl) (ci := 4) (v := .int (iI ty)) (C := RX4) (T := TX4) (N := 12) hx hb hts hinX4 hown hK hP 0 rfl rfl 7 (by decide) hf_151 (fun _ h => h) rfl dX4_wipe_1 ?_
  refine lv_istore_n (lv' := [(1, .int (iI ty)), (0, .ref (q 0))]) hx hb dX4_wipe_4 rfl hl (by decide) rfl (fun ls hl => ?_)
  refine lv_aload_n hx hb dX4_wipe_5 rfl (lv_at hl 1 rfl) ?_
  refine lv_iconst (v := iI 0) hx hb dX4_wipe_6 (by decide) ?_
  refine va_put (D := E.1) (cl := vwCl) (ci := 4) (v := .int (iI 0)) (ty := .int) (C := RX4) (T := TX4) (N := 12) hx hb hts hinX4 tyX4 tyX4_ok nmX4 hown hK hP hD hS 0 rfl rfl 7 (by decide) hf_151 (fun _ h => h) rfl (by decide +kernel) (rfl) (rfl) (Nat.le_of_ble_eq_true rfl) dX4_wipe_7 (fun H locs hP hD hS => ?_)
  have hP : va_P E.1 vwCl (wM E q z pa sl sv sp pd od pm 0 om st wr) H := hP
  have hD : va_D A (wM E q z pa sl sv sp pd od pm 0 om st wr) := hD
  refine lv_iload_n hx hb dX4_wipe_10 rfl (lv_at hl 0 rfl) ?_
  exact z_iret hx hb hr hlocks hK hS () (by first | rfl | trivial | exact zb_t' (by omega) | exact zb_f' (by omega) | omega) hP hD dX4_wipe_11

theorem ndX4_putAside : yX4_putAside.cls = RX4 ∧ yX4_putAside.cls ≠ "java/lang/invoke/MethodHandle" ∧ yX4_putAside.cls ≠ "java/lang/invoke/VarHandle" ∧ (parseMethodDescriptor yX4_putAside.desc).map (fun d => d.parameters.length) = some 0 := by decide +kernel
set_option maxRecDepth 100000 in
set_option maxHeartbeats 400000 in
theorem c_X4_putAside (l : Launch) (E : zE) (q : Nat → Nat) (z pa sl sv sp pd od : Int → Int) (pm ty om st wr : Int) : zFv l E yX4_putAside wsX4_putAside 0 0 [.ref (q 0)] (wM E q z pa sl sv sp pd od pm ty om st wr) (wM E q z pa sl sv (copyR sp z) pd od pm ty om st wr) := by
  refine zCv_of (cc := cX4_putAside) (maxL := 2) (by decide) rfl (Nat.le_of_ble_eq_true rfl) ?_
  intro p e s m below meth c ls A hx hb hr hts hown hlocks hml hK hA hS hP hD hl
  have hown : s.vm.findClass RX4 = some m.cls := hown
  have hl : lv_has ls 2 [(0, .ref (q 0))] := hl
  have hinX4 : ∀ v ∈ u_ws RX4 TX4 12, v ∈ wsX4_putAside := by decide +kernel
  have hf_23 := hts (.fieldLink RX4 23 "GenerationNamesModel" "spare" "[I") (by decide +kernel)
  have hf_7 := hts (.fieldLink RX4 7 "GenerationNamesModel" "z" "[I") (by decide +kernel)
  refine lv_iconst (v := iI 0) hx hb dX4_putAside_0 (by decide) ?_
  refine lv_istore_n (lv' := [(1, .int (iI 0)), (0, .ref (q 0))]) hx hb dX4_putAside_1 rfl hl (by decide) rfl (fun ls hl => ?_)
  have hloop2 : ∀ (n : Nat) (s1 : Int → Int) (i1 : Int) (hmu : 367 - i1 = (n : Int)) (hi2_0 : s1 = itr (fun k y => iU y k (z k)) sp (i1).toNat) (hi2_1 : 0 ≤ i1 ∧ i1 ≤ 367) (H : Heap) (locs : List Loc) (ls : Array Slot), va_P E.1 vwCl (wM E q z pa sl sv s1 pd od pm ty om st wr) H → va_D A (wM E q z pa sl sv s1 pd od pm ty om st wr) → va_S A s.heap H locs → lv_has ls 2 [(1, .int (iI i1)), (0, .ref (q 0))] → W p l e (zR 0 0) s m ([.ref (q 0)] : List Value).toArray below meth c H locs 0 0 (MQ below (zQv E A (S := Unit) (fun _ => True) (fun _ => wM E q z pa sl sv (copyR sp z) pd od pm ty om st wr)) ([.ref (q 0)] : List Value).toArray s 0 0 A) (F0 m 2 ls []) := by
    intro n
    induction n using Nat.strongRecOn with
    | ind n ih2 =>
      intro s1 i1 hmu2 hi2_0 hi2_1 H locs ls hP hD hS hl
      refine lv_iload_n hx hb dX4_putAside_2 rfl (lv_at hl 0 rfl) ?_
      refine lv_sipush (v := iI 367) hx hb dX4_putAside_3 (by decide) ?_
      refine z_icmp_ge (tgt := 27) hx hb dX4_putAside_6 (by decide) ⟨by first | omega | exact (hz _).1 | exact (hz _).2, by first | omega | exact (hz _).1 | exact (hz _).2⟩ ⟨by first | omega | exact (hz _).1 | exact (hz _).2, by first | omega | exact (hz _).1 | exact (hz _).2⟩ (fun c_6 => ?_) (fun c_6 => ?_)
      · have eqc_sp : (copyR sp z) = s1 := by unfold copyR; rw [hi2_0, show i1 = 367 by omega]
        have hP : va_P E.1 vwCl (wM E q z pa sl sv (copyR sp z) pd od pm ty om st wr) H := by rw [eqc_sp]; exact hP
        have hD : va_D A (wM E q z pa sl sv (copyR sp z) pd od pm ty om st wr) := by rw [eqc_sp]; exact hD
        exact z_vret hx hb hr hlocks hK hS () (by first | rfl | trivial | exact zb_t' (by omega) | exact zb_f' (by omega) | omega) hP hD dX4_putAside_27
      · refine lv_aload_n hx hb dX4_putAside_9 rfl (lv_at hl 1 rfl) ?_
        refine va_get (D := E.1) (cl := vwCl) (ci := 4) (v := .ref (q 5)) (C := RX4) (T := TX4) (N := 12) hx hb hts hinX4 hown hK hP 0 rfl rfl 5 (by decide) hf_23 (fun _ h => h) rfl dX4_putAside_10 ?_
        refine lv_iload_n hx hb dX4_putAside_13 rfl (lv_at hl 0 rfl) ?_
        refine lv_aload_n hx hb dX4_putAside_14 rfl (lv_at hl 1 rfl) ?_
        refine va_get (D := E.1) (cl := vwCl) (ci := 4) (v := .ref (q 1)) (C := RX4) (T := TX4) (N := 12) hx hb hts hinX4 hown hK hP 0 rfl rfl 0 (by decide) hf_7 (fun _ h => h) rfl dX4_putAside_15 ?_
        refine lv_iload_n hx hb dX4_putAside_18 rfl (lv_at hl 0 rfl) ?_
        refine z_iald (D := E.1) (cl := vwCl) (tys := zT E) (f := z) hx hb hK hP 1 0 rfl rfl (by omega) (by omega) (by omega) dX4_putAside_19 ?_
        refine z_iast (D := E.1) (cl := vwCl) (tys := zT E) (f := s1) hx hb hK hP hD hS 5 0 rfl rfl (by omega) (by omega) (by omega) dX4_putAside_20 (fun H locs hP hD hS => ?_)
        have hP : va_P E.1 vwCl (wM E q z pa sl sv (iU s1 i1 (z i1)) pd od pm ty om st wr) H := hP
        have hD : va_D A (wM E q z pa sl sv (iU s1 i1 (z i1)) pd od pm ty om st wr) := hD
        refine lv_iinc (v := iI (i1 + 1)) (lv' := [(1, .int (iI (i1 + 1))), (0, .ref (q 0))]) hx hb dX4_putAside_21 hl (k := 0) rfl (iI_add _ _) (by decide) rfl (fun ls hl => ?_)
        refine lv_goto (tgt := 2) hx hb dX4_putAside_24 (by decide) ?_
        exact ih2 (367 - (i1 + 1) : Int).toNat (by omega) (iU s1 i1 (z i1)) (i1 + 1) (by omega) (by rw [itr_step (by omega), ← hi2_0]) (by omega) _ _ ls hP hD hS (lv_sub hl [0, 1] rfl)
  exact hloop2 (367 - 0 : Int).toNat sp 0 (by omega) (rfl) (by omega) _ _ ls hP hD hS (lv_sub hl [0, 1] rfl)

theorem ndX4_bringBack : yX4_bringBack.cls = RX4 ∧ yX4_bringBack.cls ≠ "java/lang/invoke/MethodHandle" ∧ yX4_bringBack.cls ≠ "java/lang/invoke/VarHandle" ∧ (parseMethodDescriptor yX4_bringBack.desc).map (fun d => d.parameters.length) = some 0 := by decide +kernel
set_option maxRecDepth 100000 in
set_option maxHeartbeats 400000 in
theorem c_X4_bringBack (l : Launch) (E : zE) (q : Nat → Nat) (z pa sl sv sp pd od : Int → Int) (pm ty om st wr : Int) : zFv l E yX4_bringBack wsX4_bringBack 0 0 [.ref (q 0)] (wM E q z pa sl sv sp pd od pm ty om st wr) (wM E q (copyR z sp) pa sl sv sp pd od pm ty om st wr) := by
  refine zCv_of (cc := cX4_bringBack) (maxL := 2) (by decide) rfl (Nat.le_of_ble_eq_true rfl) ?_
  intro p e s m below meth c ls A hx hb hr hts hown hlocks hml hK hA hS hP hD hl
  have hown : s.vm.findClass RX4 = some m.cls := hown
  have hl : lv_has ls 2 [(0, .ref (q 0))] := hl
  have hinX4 : ∀ v ∈ u_ws RX4 TX4 12, v ∈ wsX4_bringBack := by decide +kernel
  have hf_7 := hts (.fieldLink RX4 7 "GenerationNamesModel" "z" "[I") (by decide +kernel)
  have hf_23 := hts (.fieldLink RX4 23 "GenerationNamesModel" "spare" "[I") (by decide +kernel)
  refine lv_iconst (v := iI 0) hx hb dX4_bringBack_0 (by decide) ?_
  refine lv_istore_n (lv' := [(1, .int (iI 0)), (0, .ref (q 0))]) hx hb dX4_bringBack_1 rfl hl (by decide) rfl (fun ls hl => ?_)
  have hloop2 : ∀ (n : Nat) (s1 : Int → Int) (i1 : Int) (hmu : 367 - i1 = (n : Int)) (hi2_0 : s1 = itr (fun k y => iU y k (sp k)) z (i1).toNat) (hi2_1 : 0 ≤ i1 ∧ i1 ≤ 367) (H : Heap) (locs : List Loc) (ls : Array Slot), va_P E.1 vwCl (wM E q s1 pa sl sv sp pd od pm ty om st wr) H → va_D A (wM E q s1 pa sl sv sp pd od pm ty om st wr) → va_S A s.heap H locs → lv_has ls 2 [(1, .int (iI i1)), (0, .ref (q 0))] → W p l e (zR 0 0) s m ([.ref (q 0)] : List Value).toArray below meth c H locs 0 0 (MQ below (zQv E A (S := Unit) (fun _ => True) (fun _ => wM E q (copyR z sp) pa sl sv sp pd od pm ty om st wr)) ([.ref (q 0)] : List Value).toArray s 0 0 A) (F0 m 2 ls []) := by
    intro n
    induction n using Nat.strongRecOn with
    | ind n ih2 =>
      intro s1 i1 hmu2 hi2_0 hi2_1 H locs ls hP hD hS hl
      refine lv_iload_n hx hb dX4_bringBack_2 rfl (lv_at hl 0 rfl) ?_
      refine lv_sipush (v := iI 367) hx hb dX4_bringBack_3 (by decide) ?_
      refine z_icmp_ge (tgt := 27) hx hb dX4_bringBack_6 (by decide) ⟨by first | omega | exact (hz _).1 | exact (hz _).2, by first | omega | exact (hz _).1 | exact (hz _).2⟩ ⟨by first | omega | exact (hz _).1 | exact (hz _).2, by first | omega | exact (hz _).1 | exact (hz _).2⟩ (fun c_6 => ?_) (fun c_6 => ?_)
      · have eqc_z : (copyR z sp) = s1 := by unfold copyR; rw [hi2_0, show i1 = 367 by omega]
        have hP : va_P E.1 vwCl (wM E q (copyR z sp) pa sl sv sp pd od pm ty om st wr) H := by rw [eqc_z]; exact hP
        have hD : va_D A (wM E q (copyR z sp) pa sl sv sp pd od pm ty om st wr) := by rw [eqc_z]; exact hD
        exact z_vret hx hb hr hlocks hK hS () (by first | rfl | trivial | exact zb_t' (by omega) | exact zb_f' (by omega) | omega) hP hD dX4_bringBack_27
      · refine lv_aload_n hx hb dX4_bringBack_9 rfl (lv_at hl 1 rfl) ?_
        refine va_get (D := E.1) (cl := vwCl) (ci := 4) (v := .ref (q 1)) (C := RX4) (T := TX4) (N := 12) hx hb hts hinX4 hown hK hP 0 rfl rfl 0 (by decide) hf_7 (fun _ h => h) rfl dX4_bringBack_10 ?_
        refine lv_iload_n hx hb dX4_bringBack_13 rfl (lv_at hl 0 rfl) ?_
        refine lv_aload_n hx hb dX4_bringBack_14 rfl (lv_at hl 1 rfl) ?_
        refine va_get (D := E.1) (cl := vwCl) (ci := 4) (v := .ref (q 5)) (C := RX4) (T := TX4) (N := 12) hx hb hts hinX4 hown hK hP 0 rfl rfl 5 (by decide) hf_23 (fun _ h => h) rfl dX4_bringBack_15 ?_
        refine lv_iload_n hx hb dX4_bringBack_18 rfl (lv_at hl 0 rfl) ?_
        refine z_iald (D := E.1) (cl := vwCl) (tys := zT E) (f := sp) hx hb hK hP 5 0 rfl rfl (by omega) (by omega) (by omega) dX4_bringBack_19 ?_
        refine z_iast (D := E.1) (cl := vwCl) (tys := zT E) (f := s1) hx hb hK hP hD hS 1 0 rfl rfl (by omega) (by omega) (by omega) dX4_bringBack_20 (fun H locs hP hD hS => ?_)
        have hP : va_P E.1 vwCl (wM E q (iU s1 i1 (sp i1)) pa sl sv sp pd od pm ty om st wr) H := hP
        have hD : va_D A (wM E q (iU s1 i1 (sp i1)) pa sl sv sp pd od pm ty om st wr) := hD
        refine lv_iinc (v := iI (i1 + 1)) (lv' := [(1, .int (iI (i1 + 1))), (0, .ref (q 0))]) hx hb dX4_bringBack_21 hl (k := 0) rfl (iI_add _ _) (by decide) rfl (fun ls hl => ?_)
        refine lv_goto (tgt := 2) hx hb dX4_bringBack_24 (by decide) ?_
        exact ih2 (367 - (i1 + 1) : Int).toNat (by omega) (iU s1 i1 (sp i1)) (i1 + 1) (by omega) (by rw [itr_step (by omega), ← hi2_0]) (by omega) _ _ ls hP hD hS (lv_sub hl [0, 1] rfl)
  exact hloop2 (367 - 0 : Int).toNat z 0 (by omega) (rfl) (by omega) _ _ ls hP hD hS (lv_sub hl [0, 1] rfl)

theorem ndX4_ifFailed : yX4_ifFailed.cls = RX4 ∧ yX4_ifFailed.cls ≠ "java/lang/invoke/MethodHandle" ∧ yX4_ifFailed.cls ≠ "java/lang/invoke/VarHandle" ∧ (parseMethodDescriptor yX4_ifFailed.desc).map (fun d => d.parameters.length) = some 1 := by decide +kernel
set_option maxRecDepth 100000 in
set_option maxHeartbeats 400000 in
theorem c_X4_ifFailed (l : Launch) (E : zE) (q : Nat → Nat) (z pa sl sv sp pd od : Int → Int) (pm ty om st wr : Int) (g : Int) (h0 : rg g) (h1 : MI z) : zF l E yX4_ifFailed wsX4_ifFailed 6 135 [.ref (q 0), .int (iI g)] (wM E q z pa sl sv sp pd od pm ty om st wr) (if ¬ (0 ≤ g ∧ g ≤ 5) then -1 else if mTold (mIfF z) g 0 = -6 then -6 else zg (mIfF z) g (15 + 5 * (mTold (mIfF z) g 0) + 1)) (wM E q (if 0 ≤ g ∧ g ≤ 5 then copyR (mIfF z) (copyR sp z) else z) pa sl sv (if 0 ≤ g ∧ g ≤ 5 then copyR sp z else sp) pd od pm ty om st wr) := by
  obtain ⟨hz, hmi, hb1, hb2, hb6⟩ := id h1
  have hm : AG z := fun g a b => (hmi g a b).1
  have hb1r : rg (z 1) := by omega
  obtain ⟨he1, he2, he3⟩ := mEnd_inv (w := 0) hm hz
  refine zC_of (cc := cX4_ifFailed) (maxL := 4) (by decide) rfl (Nat.le_of_ble_eq_true rfl) ?_
  intro p e s m below meth c ls A hx hb hr hts hown hlocks hml hK hA hS hP hD hl
  have hown : s.vm.findClass RX4 = some m.cls := hown
  have hl : lv_has ls 4 [(0, .ref (q 0)), (1, .int (iI g))] := hl
  refine lv_iload_n hx hb dX4_ifFailed_0 rfl (lv_at hl 1 rfl) ?_
  refine z_callS0 (As := [.int (iI g)]) (rest := []) hx hb hml hown hts hK hA hl.1 hP hD hS (c_X4_isGroup l E  g  (by first | omega | exact hz _ _ (by omega) | exact hz | exact ⟨by omega, by omega⟩ | exact hm | exact hcz | exact ⟨by omega, by omega⟩ | exact hb1r | exact hcz)) gX4_ifFailed_X4_isGroup rfl ndX4_isGroup ⟨Nat.le_of_ble_eq_true rfl, Nat.le_of_ble_eq_true rfl⟩ rfl rfl (Nat.le_of_ble_eq_true rfl) dX4_ifFailed_1 ⟨Nat.le_of_ble_eq_true rfl, Nat.le_of_ble_eq_true rfl⟩ (fun x H locs hpost hP hD hS => ?_)
  subst hpost
  refine z_ifb_ne (tgt := 9) hx hb dX4_ifFailed_4 (by decide) (fun c_4 => ?_) (fun c_4 => ?_)
  · refine lv_aload_n hx hb dX4_ifFailed_9 rfl (lv_at hl 0 rfl) ?_
    refine z_callVv0 (ci := 4) (qk := 0) (As := []) (rest := []) hx hb hml hown hts hK hA hl.1 hP hD hS (c_X4_putAside l E q z pa sl sv sp pd od pm ty om st wr   ) gX4_ifFailed_X4_putAside rfl ndX4_putAside ⟨Nat.le_of_ble_eq_true rfl, Nat.le_of_ble_eq_true rfl⟩ rfl rfl rfl rfl rfl (Nat.le_of_ble_eq_true rfl) dX4_ifFailed_10 ⟨Nat.le_of_ble_eq_true rfl, Nat.le_of_ble_eq_true rfl⟩ (fun u H locs hpost hP hD hS => ?_)
    have hP : va_P E.1 vwCl (wM E q z pa sl sv (copyR sp z) pd od pm ty om st wr) H := hP
    have hD : va_D A (wM E q z pa sl sv (copyR sp z) pd od pm ty om st wr) := hD
    refine lv_aload_n hx hb dX4_ifFailed_13 rfl (lv_at hl 0 rfl) ?_
    refine z_callV0 (ci := 4) (qk := 0) (As := []) (rest := []) hx hb hml hown hts hK hA hl.1 hP hD hS (c_X4_runs l E q z pa sl sv (copyR sp z) pd od pm ty om st wr   (by first | omega | exact hz _ _ (by omega) | exact hz | exact ⟨by omega, by omega⟩ | exact hm | exact hcz | exact ⟨by omega, by omega⟩ | exact hb1r | exact hcz)) gX4_ifFailed_X4_runs rfl ndX4_runs ⟨Nat.le_of_ble_eq_true rfl, Nat.le_of_ble_eq_true rfl⟩ rfl rfl rfl rfl rfl (Nat.le_of_ble_eq_true rfl) dX4_ifFailed_14 ⟨Nat.le_of_ble_eq_true rfl, Nat.le_of_ble_eq_true rfl⟩ (fun x u H locs hpost hP hD hS => ?_)
    subst hpost
    have hP : va_P E.1 vwCl (wM E q z pa sl sv (copyR sp z) pd od pm ty om st wr) H := hP
    have hD : va_D A (wM E q z pa sl sv (copyR sp z) pd od pm ty om st wr) := hD
    refine z_ifb_eq (tgt := 26) hx hb dX4_ifFailed_17 (by decide) (fun c_17 => ?_) (fun c_17 => ?_)
    · refine lv_aload_n hx hb dX4_ifFailed_26 rfl (lv_at hl 0 rfl) ?_
      have hif : mIfF z = z := by unfold mIfF; first | rw [if_pos c_17] | rw [if_neg c_17]
      have hgi : 0 ≤ zg (z) g 1 ∧ zg (z) g 1 ≤ 8 := by first | exact he1 g (by omega) (by omega) | exact hm g (by omega) (by omega)
      have hcz : CZ (z) := by first | exact he2 | exact hz
      have hb1r : rg ((z) 1) := by first | exact hb1r | (rw [he3]; exact ⟨by omega, by omega⟩)
      have ht := mTold_rg (z := z) (g := g) (n := 0) hgi.1
      refine lv_iload_n hx hb dX4_ifFailed_27 rfl (lv_at hl 1 rfl) ?_
      refine lv_iconst (v := iI 0) hx hb dX4_ifFailed_28 (by decide) ?_
      refine z_callV0 (ci := 4) (qk := 0) (As := [.int (iI g), .int (iI 0)]) (rest := []) hx hb hml hown hts hK hA hl.1 hP hD hS (c_X4_told l E q z pa sl sv (copyR sp z) pd od pm ty om st wr g 0  (by first | omega | exact hz _ _ (by omega) | exact hz | exact ⟨by omega, by omega⟩ | exact hm | exact hcz | exact ⟨by omega, by omega⟩ | exact hb1r | exact hcz) (by first | omega | exact hz _ _ (by omega) | exact hz | exact ⟨by omega, by omega⟩ | exact hm | exact hcz | exact ⟨by omega, by omega⟩ | exact hb1r | exact hcz) (by first | omega | exact hz _ _ (by omega) | exact hz | exact ⟨by omega, by omega⟩ | exact hm | exact hcz | exact ⟨by omega, by omega⟩ | exact hb1r | exact hcz) (by first | omega | exact hz _ _ (by omega) | exact hz | exact ⟨by omega, by omega⟩ | exact hm | exact hcz | exact ⟨by omega, by omega⟩ | exact hb1r | exact hcz) (by first | omega | exact hz _ _ (by omega) | exact hz | exact ⟨by omega, by omega⟩ | exact hm | exact hcz | exact ⟨by omega, by omega⟩ | exact hb1r | exact hcz)) gX4_ifFailed_X4_told rfl ndX4_told ⟨Nat.le_of_ble_eq_true rfl, Nat.le_of_ble_eq_true rfl⟩ rfl rfl rfl rfl rfl (Nat.le_of_ble_eq_true rfl) dX4_ifFailed_29 ⟨Nat.le_of_ble_eq_true rfl, Nat.le_of_ble_eq_true rfl⟩ (fun x u H locs hpost hP hD hS => ?_)
      subst hpost
      have hP : va_P E.1 vwCl (wM E q z pa sl sv (copyR sp z) pd od pm ty om st wr) H := hP
      have hD : va_D A (wM E q z pa sl sv (copyR sp z) pd od pm ty om st wr) := hD
      refine lv_istore_n (lv' := [(2, .int (iI (mTold z g 0))), (0, .ref (q 0)), (1, .int (iI g))]) hx hb dX4_ifFailed_32 rfl hl (by decide) rfl (fun ls hl => ?_)
      refine lv_iload_n hx hb dX4_ifFailed_33 rfl (lv_at hl 0 rfl) ?_
      refine lv_bipush (v := iI (-6)) hx hb dX4_ifFailed_34 (by decide) ?_
      refine z_icmp_ne (tgt := 44) hx hb dX4_ifFailed_36 (by decide) ⟨by first | omega | exact (hz _ _ (by omega)).1 | exact (hz _ _ (by omega)).2, by first | omega | exact (hz _ _ (by omega)).1 | exact (hz _ _ (by omega)).2⟩ ⟨by first | omega | exact (hz _ _ (by omega)).1 | exact (hz _ _ (by omega)).2, by first | omega | exact (hz _ _ (by omega)).1 | exact (hz _ _ (by omega)).2⟩ (fun c_36 => ?_) (fun c_36 => ?_)
      · refine lv_aload_n hx hb dX4_ifFailed_44 rfl (lv_at hl 1 rfl) ?_
        refine lv_iload_n hx hb dX4_ifFailed_45 rfl (lv_at hl 2 rfl) ?_
        refine lv_iload_n hx hb dX4_ifFailed_46 rfl (lv_at hl 0 rfl) ?_
        refine lv_iconst (v := iI 1) hx hb dX4_ifFailed_47 (by decide) ?_
        refine z_callV0 (ci := 4) (qk := 0) (As := [.int (iI g), .int (iI (mTold z g 0)), .int (iI 1)]) (rest := []) hx hb hml hown hts hK hA hl.1 hP hD hS (c_X4_gen l E q z pa sl sv (copyR sp z) pd od pm ty om st wr g (mTold z g 0) 1  (by first | omega | exact hz _ _ (by omega) | exact hz | exact ⟨by omega, by omega⟩ | exact hm | exact hcz | exact ⟨by omega, by omega⟩ | exact hb1r | exact hcz) (by first | omega | exact hz _ _ (by omega) | exact hz | exact ⟨by omega, by omega⟩ | exact hm | exact hcz | exact ⟨by omega, by omega⟩ | exact hb1r | exact hcz)) gX4_ifFailed_X4_gen rfl ndX4_gen ⟨Nat.le_of_ble_eq_true rfl, Nat.le_of_ble_eq_true rfl⟩ rfl rfl rfl rfl rfl (Nat.le_of_ble_eq_true rfl) dX4_ifFailed_48 ⟨Nat.le_of_ble_eq_true rfl, Nat.le_of_ble_eq_true rfl⟩ (fun x u H locs hpost hP hD hS => ?_)
        subst hpost
        have hP : va_P E.1 vwCl (wM E q z pa sl sv (copyR sp z) pd od pm ty om st wr) H := hP
        have hD : va_D A (wM E q z pa sl sv (copyR sp z) pd od pm ty om st wr) := hD
        refine lv_istore_n (lv' := [(3, .int (iI (zg z g (15 + 5 * (mTold z g 0) + 1)))), (2, .int (iI (mTold z g 0))), (0, .ref (q 0)), (1, .int (iI g))]) hx hb dX4_ifFailed_51 rfl hl (by decide) rfl (fun ls hl => ?_)
        refine lv_aload_n hx hb dX4_ifFailed_52 rfl (lv_at hl 2 rfl) ?_
        refine z_callVv0 (ci := 4) (qk := 0) (As := []) (rest := []) hx hb hml hown hts hK hA hl.1 hP hD hS (c_X4_bringBack l E q z pa sl sv (copyR sp z) pd od pm ty om st wr   ) gX4_ifFailed_X4_bringBack rfl ndX4_bringBack ⟨Nat.le_of_ble_eq_true rfl, Nat.le_of_ble_eq_true rfl⟩ rfl rfl rfl rfl rfl (Nat.le_of_ble_eq_true rfl) dX4_ifFailed_53 ⟨Nat.le_of_ble_eq_true rfl, Nat.le_of_ble_eq_true rfl⟩ (fun u H locs hpost hP hD hS => ?_)
        have hP : va_P E.1 vwCl (wM E q (copyR z (copyR sp z)) pa sl sv (copyR sp z) pd od pm ty om st wr) H := hP
        have hD : va_D A (wM E q (copyR z (copyR sp z)) pa sl sv (copyR sp z) pd od pm ty om st wr) := hD
        refine lv_iload_n hx hb dX4_ifFailed_56 rfl (lv_at hl 0 rfl) ?_
        have eqc_z : (if 0 ≤ g ∧ g ≤ 5 then copyR (mIfF z) (copyR sp z) else z) = copyR z (copyR sp z) := by (first | rw [if_pos (by omega)] | rw [if_neg (by omega)]); all_goals (rw [hif])
        have eqc_sp : (if 0 ≤ g ∧ g ≤ 5 then copyR sp z else sp) = copyR sp z := by (first | rw [if_pos (by omega)] | rw [if_neg (by omega)])
        have hP : va_P E.1 vwCl (wM E q (if 0 ≤ g ∧ g ≤ 5 then copyR (mIfF z) (copyR sp z) else z) pa sl sv (if 0 ≤ g ∧ g ≤ 5 then copyR sp z else sp) pd od pm ty om st wr) H := by rw [eqc_z, eqc_sp]; exact hP
        have hD : va_D A (wM E q (if 0 ≤ g ∧ g ≤ 5 then copyR (mIfF z) (copyR sp z) else z) pa sl sv (if 0 ≤ g ∧ g ≤ 5 then copyR sp z else sp) pd od pm ty om st wr) := by rw [eqc_z, eqc_sp]; exact hD
        exact z_iret hx hb hr hlocks hK hS () (by (repeat (first | with_reducible rfl | rw [if_pos (by omega)] | rw [if_neg (by omega)])); all_goals (rw [hif]; (repeat (first | with_reducible rfl | rw [if_pos (by omega)] | rw [if_neg (by omega)])))) hP hD dX4_ifFailed_57
      · refine lv_bipush (v := iI (-6)) hx hb dX4_ifFailed_39 (by decide) ?_
        refine lv_goto (tgt := 51) hx hb dX4_ifFailed_41 (by decide) ?_
        refine lv_istore_n (lv' := [(3, .int (iI (-6))), (2, .int (iI (mTold z g 0))), (0, .ref (q 0)), (1, .int (iI g))]) hx hb dX4_ifFailed_51 rfl hl (by decide) rfl (fun ls hl => ?_)
        refine lv_aload_n hx hb dX4_ifFailed_52 rfl (lv_at hl 2 rfl) ?_
        refine z_callVv0 (ci := 4) (qk := 0) (As := []) (rest := []) hx hb hml hown hts hK hA hl.1 hP hD hS (c_X4_bringBack l E q z pa sl sv (copyR sp z) pd od pm ty om st wr   ) gX4_ifFailed_X4_bringBack rfl ndX4_bringBack ⟨Nat.le_of_ble_eq_true rfl, Nat.le_of_ble_eq_true rfl⟩ rfl rfl rfl rfl rfl (Nat.le_of_ble_eq_true rfl) dX4_ifFailed_53 ⟨Nat.le_of_ble_eq_true rfl, Nat.le_of_ble_eq_true rfl⟩ (fun u H locs hpost hP hD hS => ?_)
        have hP : va_P E.1 vwCl (wM E q (copyR z (copyR sp z)) pa sl sv (copyR sp z) pd od pm ty om st wr) H := hP
        have hD : va_D A (wM E q (copyR z (copyR sp z)) pa sl sv (copyR sp z) pd od pm ty om st wr) := hD
        refine lv_iload_n hx hb dX4_ifFailed_56 rfl (lv_at hl 0 rfl) ?_
        have eqc_z : (if 0 ≤ g ∧ g ≤ 5 then copyR (mIfF z) (copyR sp z) else z) = copyR z (copyR sp z) := by (first | rw [if_pos (by omega)] | rw [if_neg (by omega)]); all_goals (rw [hif])
        have eqc_sp : (if 0 ≤ g ∧ g ≤ 5 then copyR sp z else sp) = copyR sp z := by (first | rw [if_pos (by omega)] | rw [if_neg (by omega)])
        have hP : va_P E.1 vwCl (wM E q (if 0 ≤ g ∧ g ≤ 5 then copyR (mIfF z) (copyR sp z) else z) pa sl sv (if 0 ≤ g ∧ g ≤ 5 then copyR sp z else sp) pd od pm ty om st wr) H := by rw [eqc_z, eqc_sp]; exact hP
        have hD : va_D A (wM E q (if 0 ≤ g ∧ g ≤ 5 then copyR (mIfF z) (copyR sp z) else z) pa sl sv (if 0 ≤ g ∧ g ≤ 5 then copyR sp z else sp) pd od pm ty om st wr) := by rw [eqc_z, eqc_sp]; exact hD
        exact z_iret hx hb hr hlocks hK hS () (by (repeat (first | with_reducible rfl | rw [if_pos (by omega)] | rw [if_neg (by omega)])); all_goals (rw [hif]; (repeat (first | with_reducible rfl | rw [if_pos (by omega)] | rw [if_neg (by omega)])))) hP hD dX4_ifFailed_57
    · refine lv_aload_n hx hb dX4_ifFailed_20 rfl (lv_at hl 0 rfl) ?_
      refine lv_iconst (v := iI 0) hx hb dX4_ifFailed_21 (by decide) ?_
      refine z_callV0 (ci := 4) (qk := 0) (As := [.int (iI 0)]) (rest := []) hx hb hml hown hts hK hA hl.1 hP hD hS (c_X4_endIt l E q z pa sl sv (copyR sp z) pd od pm ty om st wr 0  (by first | omega | exact hz _ _ (by omega) | exact hz | exact ⟨by omega, by omega⟩ | exact hm | exact hcz | exact ⟨by omega, by omega⟩ | exact hb1r | exact hcz) (by first | omega | exact hz _ _ (by omega) | exact hz | exact ⟨by omega, by omega⟩ | exact hm | exact hcz | exact ⟨by omega, by omega⟩ | exact hb1r | exact hcz) (by first | omega | exact hz _ _ (by omega) | exact hz | exact ⟨by omega, by omega⟩ | exact hm | exact hcz | exact ⟨by omega, by omega⟩ | exact hb1r | exact hcz) (by first | omega | exact hz _ _ (by omega) | exact hz | exact ⟨by omega, by omega⟩ | exact hm | exact hcz | exact ⟨by omega, by omega⟩ | exact hb1r | exact hcz)) gX4_ifFailed_X4_endIt rfl ndX4_endIt ⟨Nat.le_of_ble_eq_true rfl, Nat.le_of_ble_eq_true rfl⟩ rfl rfl rfl rfl rfl (Nat.le_of_ble_eq_true rfl) dX4_ifFailed_22 ⟨Nat.le_of_ble_eq_true rfl, Nat.le_of_ble_eq_true rfl⟩ (fun x u H locs hpost hP hD hS => ?_)
      subst hpost
      have hP : va_P E.1 vwCl (wM E q (mEnd z 0) pa sl sv (copyR sp z) pd od pm ty om st wr) H := hP
      have hD : va_D A (wM E q (mEnd z 0) pa sl sv (copyR sp z) pd od pm ty om st wr) := hD
      refine lv_pop hx hb dX4_ifFailed_25 rfl ?_
      refine lv_aload_n hx hb dX4_ifFailed_26 rfl (lv_at hl 0 rfl) ?_
      have hif : mIfF z = (mEnd z 0) := by unfold mIfF; first | rw [if_pos c_17] | rw [if_neg c_17]
      have hgi : 0 ≤ zg ((mEnd z 0)) g 1 ∧ zg ((mEnd z 0)) g 1 ≤ 8 := by first | exact he1 g (by omega) (by omega) | exact hm g (by omega) (by omega)
      have hcz : CZ ((mEnd z 0)) := by first | exact he2 | exact hz
      have hb1r : rg (((mEnd z 0)) 1) := by first | exact hb1r | (rw [he3]; exact ⟨by omega, by omega⟩)
      have ht := mTold_rg (z := (mEnd z 0)) (g := g) (n := 0) hgi.1
      refine lv_iload_n hx hb dX4_ifFailed_27 rfl (lv_at hl 1 rfl) ?_
      refine lv_iconst (v := iI 0) hx hb dX4_ifFailed_28 (by decide) ?_
      refine z_callV0 (ci := 4) (qk := 0) (As := [.int (iI g), .int (iI 0)]) (rest := []) hx hb hml hown hts hK hA hl.1 hP hD hS (c_X4_told l E q (mEnd z 0) pa sl sv (copyR sp z) pd od pm ty om st wr g 0  (by first | omega | exact hz _ _ (by omega) | exact hz | exact ⟨by omega, by omega⟩ | exact hm | exact hcz | exact ⟨by omega, by omega⟩ | exact hb1r | exact hcz) (by first | omega | exact hz _ _ (by omega) | exact hz | exact ⟨by omega, by omega⟩ | exact hm | exact hcz | exact ⟨by omega, by omega⟩ | exact hb1r | exact hcz) (by first | omega | exact hz _ _ (by omega) | exact hz | exact ⟨by omega, by omega⟩ | exact hm | exact hcz | exact ⟨by omega, by omega⟩ | exact hb1r | exact hcz) (by first | omega | exact hz _ _ (by omega) | exact hz | exact ⟨by omega, by omega⟩ | exact hm | exact hcz | exact ⟨by omega, by omega⟩ | exact hb1r | exact hcz) (by first | omega | exact hz _ _ (by omega) | exact hz | exact ⟨by omega, by omega⟩ | exact hm | exact hcz | exact ⟨by omega, by omega⟩ | exact hb1r | exact hcz)) gX4_ifFailed_X4_told rfl ndX4_told ⟨Nat.le_of_ble_eq_true rfl, Nat.le_of_ble_eq_true rfl⟩ rfl rfl rfl rfl rfl (Nat.le_of_ble_eq_true rfl) dX4_ifFailed_29 ⟨Nat.le_of_ble_eq_true rfl, Nat.le_of_ble_eq_true rfl⟩ (fun x u H locs hpost hP hD hS => ?_)
      subst hpost
      have hP : va_P E.1 vwCl (wM E q (mEnd z 0) pa sl sv (copyR sp z) pd od pm ty om st wr) H := hP
      have hD : va_D A (wM E q (mEnd z 0) pa sl sv (copyR sp z) pd od pm ty om st wr) := hD
      refine lv_istore_n (lv' := [(2, .int (iI (mTold (mEnd z 0) g 0))), (0, .ref (q 0)), (1, .int (iI g))]) hx hb dX4_ifFailed_32 rfl hl (by decide) rfl (fun ls hl => ?_)
      refine lv_iload_n hx hb dX4_ifFailed_33 rfl (lv_at hl 0 rfl) ?_
      refine lv_bipush (v := iI (-6)) hx hb dX4_ifFailed_34 (by decide) ?_
      refine z_icmp_ne (tgt := 44) hx hb dX4_ifFailed_36 (by decide) ⟨by first | omega | exact (hz _ _ (by omega)).1 | exact (hz _ _ (by omega)).2, by first | omega | exact (hz _ _ (by omega)).1 | exact (hz _ _ (by omega)).2⟩ ⟨by first | omega | exact (hz _ _ (by omega)).1 | exact (hz _ _ (by omega)).2, by first | omega | exact (hz _ _ (by omega)).1 | exact (hz _ _ (by omega)).2⟩ (fun c_36 => ?_) (fun c_36 => ?_)
      · refine lv_aload_n hx hb dX4_ifFailed_44 rfl (lv_at hl 1 rfl) ?_
        refine lv_iload_n hx hb dX4_ifFailed_45 rfl (lv_at hl 2 rfl) ?_
        refine lv_iload_n hx hb dX4_ifFailed_46 rfl (lv_at hl 0 rfl) ?_
        refine lv_iconst (v := iI 1) hx hb dX4_ifFailed_47 (by decide) ?_
        refine z_callV0 (ci := 4) (qk := 0) (As := [.int (iI g), .int (iI (mTold (mEnd z 0) g 0)), .int (iI 1)]) (rest := []) hx hb hml hown hts hK hA hl.1 hP hD hS (c_X4_gen l E q (mEnd z 0) pa sl sv (copyR sp z) pd od pm ty om st wr g (mTold (mEnd z 0) g 0) 1  (by first | omega | exact hz _ _ (by omega) | exact hz | exact ⟨by omega, by omega⟩ | exact hm | exact hcz | exact ⟨by omega, by omega⟩ | exact hb1r | exact hcz) (by first | omega | exact hz _ _ (by omega) | exact hz | exact ⟨by omega, by omega⟩ | exact hm | exact hcz | exact ⟨by omega, by omega⟩ | exact hb1r | exact hcz)) gX4_ifFailed_X4_gen rfl ndX4_gen ⟨Nat.le_of_ble_eq_true rfl, Nat.le_of_ble_eq_true rfl⟩ rfl rfl rfl rfl rfl (Nat.le_of_ble_eq_true rfl) dX4_ifFailed_48 ⟨Nat.le_of_ble_eq_true rfl, Nat.le_of_ble_eq_true rfl⟩ (fun x u H locs hpost hP hD hS => ?_)
        subst hpost
        have hP : va_P E.1 vwCl (wM E q (mEnd z 0) pa sl sv (copyR sp z) pd od pm ty om st wr) H := hP
        have hD : va_D A (wM E q (mEnd z 0) pa sl sv (copyR sp z) pd od pm ty om st wr) := hD
        refine lv_istore_n (lv' := [(3, .int (iI (zg (mEnd z 0) g (15 + 5 * (mTold (mEnd z 0) g 0) + 1)))), (2, .int (iI (mTold (mEnd z 0) g 0))), (0, .ref (q 0)), (1, .int (iI g))]) hx hb dX4_ifFailed_51 rfl hl (by decide) rfl (fun ls hl => ?_)
        refine lv_aload_n hx hb dX4_ifFailed_52 rfl (lv_at hl 2 rfl) ?_
        refine z_callVv0 (ci := 4) (qk := 0) (As := []) (rest := []) hx hb hml hown hts hK hA hl.1 hP hD hS (c_X4_bringBack l E q (mEnd z 0) pa sl sv (copyR sp z) pd od pm ty om st wr   ) gX4_ifFailed_X4_bringBack rfl ndX4_bringBack ⟨Nat.le_of_ble_eq_true rfl, Nat.le_of_ble_eq_true rfl⟩ rfl rfl rfl rfl rfl (Nat.le_of_ble_eq_true rfl) dX4_ifFailed_53 ⟨Nat.le_of_ble_eq_true rfl, Nat.le_of_ble_eq_true rfl⟩ (fun u H locs hpost hP hD hS => ?_)
        have hP : va_P E.1 vwCl (wM E q (copyR (mEnd z 0) (copyR sp z)) pa sl sv (copyR sp z) pd od pm ty om st wr) H := hP
        have hD : va_D A (wM E q (copyR (mEnd z 0) (copyR sp z)) pa sl sv (copyR sp z) pd od pm ty om st wr) := hD
        refine lv_iload_n hx hb dX4_ifFailed_56 rfl (lv_at hl 0 rfl) ?_
        have eqc_z : (if 0 ≤ g ∧ g ≤ 5 then copyR (mIfF z) (copyR sp z) else z) = copyR (mEnd z 0) (copyR sp z) := by (first | rw [if_pos (by omega)] | rw [if_neg (by omega)]); all_goals (rw [hif])
        have eqc_sp : (if 0 ≤ g ∧ g ≤ 5 then copyR sp z else sp) = copyR sp z := by (first | rw [if_pos (by omega)] | rw [if_neg (by omega)])
        have hP : va_P E.1 vwCl (wM E q (if 0 ≤ g ∧ g ≤ 5 then copyR (mIfF z) (copyR sp z) else z) pa sl sv (if 0 ≤ g ∧ g ≤ 5 then copyR sp z else sp) pd od pm ty om st wr) H := by rw [eqc_z, eqc_sp]; exact hP
        have hD : va_D A (wM E q (if 0 ≤ g ∧ g ≤ 5 then copyR (mIfF z) (copyR sp z) else z) pa sl sv (if 0 ≤ g ∧ g ≤ 5 then copyR sp z else sp) pd od pm ty om st wr) := by rw [eqc_z, eqc_sp]; exact hD
        exact z_iret hx hb hr hlocks hK hS () (by (repeat (first | with_reducible rfl | rw [if_pos (by omega)] | rw [if_neg (by omega)])); all_goals (rw [hif]; (repeat (first | with_reducible rfl | rw [if_pos (by omega)] | rw [if_neg (by omega)])))) hP hD dX4_ifFailed_57
      · refine lv_bipush (v := iI (-6)) hx hb dX4_ifFailed_39 (by decide) ?_
        refine lv_goto (tgt := 51) hx hb dX4_ifFailed_41 (by decide) ?_
        refine lv_istore_n (lv' := [(3, .int (iI (-6))), (2, .int (iI (mTold (mEnd z 0) g 0))), (0, .ref (q 0)), (1, .int (iI g))]) hx hb dX4_ifFailed_51 rfl hl (by decide) rfl (fun ls hl => ?_)
        refine lv_aload_n hx hb dX4_ifFailed_52 rfl (lv_at hl 2 rfl) ?_
        refine z_callVv0 (ci := 4) (qk := 0) (As := []) (rest := []) hx hb hml hown hts hK hA hl.1 hP hD hS (c_X4_bringBack l E q (mEnd z 0) pa sl sv (copyR sp z) pd od pm ty om st wr   ) gX4_ifFailed_X4_bringBack rfl ndX4_bringBack ⟨Nat.le_of_ble_eq_true rfl, Nat.le_of_ble_eq_true rfl⟩ rfl rfl rfl rfl rfl (Nat.le_of_ble_eq_true rfl) dX4_ifFailed_53 ⟨Nat.le_of_ble_eq_true rfl, Nat.le_of_ble_eq_true rfl⟩ (fun u H locs hpost hP hD hS => ?_)
        have hP : va_P E.1 vwCl (wM E q (copyR (mEnd z 0) (copyR sp z)) pa sl sv (copyR sp z) pd od pm ty om st wr) H := hP
        have hD : va_D A (wM E q (copyR (mEnd z 0) (copyR sp z)) pa sl sv (copyR sp z) pd od pm ty om st wr) := hD
        refine lv_iload_n hx hb dX4_ifFailed_56 rfl (lv_at hl 0 rfl) ?_
        have eqc_z : (if 0 ≤ g ∧ g ≤ 5 then copyR (mIfF z) (copyR sp z) else z) = copyR (mEnd z 0) (copyR sp z) := by (first | rw [if_pos (by omega)] | rw [if_neg (by omega)]); all_goals (rw [hif])
        have eqc_sp : (if 0 ≤ g ∧ g ≤ 5 then copyR sp z else sp) = copyR sp z := by (first | rw [if_pos (by omega)] | rw [if_neg (by omega)])
        have hP : va_P E.1 vwCl (wM E q (if 0 ≤ g ∧ g ≤ 5 then copyR (mIfF z) (copyR sp z) else z) pa sl sv (if 0 ≤ g ∧ g ≤ 5 then copyR sp z else sp) pd od pm ty om st wr) H := by rw [eqc_z, eqc_sp]; exact hP
        have hD : va_D A (wM E q (if 0 ≤ g ∧ g ≤ 5 then copyR (mIfF z) (copyR sp z) else z) pa sl sv (if 0 ≤ g ∧ g ≤ 5 then copyR sp z else sp) pd od pm ty om st wr) := by rw [eqc_z, eqc_sp]; exact hD
        exact z_iret hx hb hr hlocks hK hS () (by (repeat (first | with_reducible rfl | rw [if_pos (by omega)] | rw [if_neg (by omega)])); all_goals (rw [hif]; (repeat (first | with_reducible rfl | rw [if_pos (by omega)] | rw [if_neg (by omega)])))) hP hD dX4_ifFailed_57
  · refine lv_iconst (v := iI (-1)) hx hb dX4_ifFailed_7 (by decide) ?_
    have eqc_z : (if 0 ≤ g ∧ g ≤ 5 then copyR (mIfF z) (copyR sp z) else z) = z := by (first | rw [if_pos (by omega)] | rw [if_neg (by omega)]); all_goals (rw [hif])
    have eqc_sp : (if 0 ≤ g ∧ g ≤ 5 then copyR sp z else sp) = sp := by (first | rw [if_pos (by omega)] | rw [if_neg (by omega)])
    have hP : va_P E.1 vwCl (wM E q (if 0 ≤ g ∧ g ≤ 5 then copyR (mIfF z) (copyR sp z) else z) pa sl sv (if 0 ≤ g ∧ g ≤ 5 then copyR sp z else sp) pd od pm ty om st wr) H := by rw [eqc_z, eqc_sp]; exact hP
    have hD : va_D A (wM E q (if 0 ≤ g ∧ g ≤ 5 then copyR (mIfF z) (copyR sp z) else z) pa sl sv (if 0 ≤ g ∧ g ≤ 5 then copyR sp z else sp) pd od pm ty om st wr) := by rw [eqc_z, eqc_sp]; exact hD
    exact z_iret hx hb hr hlocks hK hS () (by (repeat (first | with_reducible rfl | rw [if_pos (by omega)] | rw [if_neg (by omega)])); all_goals (rw [hif]; (repeat (first | with_reducible rfl | rw [if_pos (by omega)] | rw [if_neg (by omega)])))) hP hD dX4_ifFailed_8

theorem ndX4_groups : yX4_groups.cls = RX4 ∧ yX4_groups.cls ≠ "java/lang/invoke/MethodHandle" ∧ yX4_groups.cls ≠ "java/lang/invoke/VarHandle" ∧ (parseMethodDescriptor yX4_groups.desc).map (fun d => d.parameters.length) = some 1 := by decide +kernel
set_option maxRecDepth 100000 in
set_option maxHeartbeats 400000 in
theorem c_X4_groups (l : Launch) (E : zE) (q : Nat → Nat) (z pa sl sv sp pd od : Int → Int) (pm ty om st wr : Int) (k : Int) (h0 : rg k) (h1 : MI z) : zF l E yX4_groups wsX4_groups 4 92 [.ref (q 0), .int (iI k)] (wM E q z pa sl sv sp pd od pm ty om st wr) (if ¬ (0 ≤ k ∧ k ≤ 2) then -2 else mSet z k) (wM E q z pa sl sv sp pd od pm ty om st wr) := by
  obtain ⟨hz, hmi, hb1, hb2, hb6⟩ := id h1
  have hm : AG z := fun g a b => (hmi g a b).1
  have hb1r : rg (z 1) := by omega
  refine zC_of (cc := cX4_groups) (maxL := 5) (by decide) rfl (Nat.le_of_ble_eq_true rfl) ?_
  intro p e s m below meth c ls A hx hb hr hts hown hlocks hml hK hA hS hP hD hl
  have hown : s.vm.findClass RX4 = some m.cls := hown
  have hl : lv_has ls 5 [(0, .ref (q 0)), (1, .int (iI k))] := hl
  refine lv_iload_n hx hb dX4_groups_0 rfl (lv_at hl 1 rfl) ?_
  refine lv_iconst (v := iI 0) hx hb dX4_groups_1 (by decide) ?_
  refine lv_iconst (v := iI 2) hx hb dX4_groups_2 (by decide) ?_
  refine z_callS0 (As := [.int (iI k), .int (iI 0), .int (iI 2)]) (rest := []) hx hb hml hown hts hK hA hl.1 hP hD hS (c_X4_in l E  k 0 2  (by first | omega | exact hz _ _ (by omega) | exact hz | exact ⟨by omega, by omega⟩ | exact hm | exact hcz | exact ⟨by omega, by omega⟩ | exact hb1r) (by first | omega | exact hz _ _ (by omega) | exact hz | exact ⟨by omega, by omega⟩ | exact hm | exact hcz | exact ⟨by omega, by omega⟩ | exact hb1r) (by first | omega | exact hz _ _ (by omega) | exact hz | exact ⟨by omega, by omega⟩ | exact hm | exact hcz | exact ⟨by omega, by omega⟩ | exact hb1r)) gX4_groups_X4_in rfl ndX4_in ⟨Nat.le_of_ble_eq_true rfl, Nat.le_of_ble_eq_true rfl⟩ rfl rfl (Nat.le_of_ble_eq_true rfl) dX4_groups_3 ⟨Nat.le_of_ble_eq_true rfl, Nat.le_of_ble_eq_true rfl⟩ (fun x H locs hpost hP hD hS => ?_)
  subst hpost
  refine z_ifb_ne (tgt := 12) hx hb dX4_groups_6 (by decide) (fun c_6 => ?_) (fun c_6 => ?_)
  · refine lv_iconst (v := iI 0) hx hb dX4_groups_12 (by decide) ?_
    refine lv_istore_n (lv' := [(2, .int (iI 0)), (0, .ref (q 0)), (1, .int (iI k))]) hx hb dX4_groups_13 rfl hl (by decide) rfl (fun ls hl => ?_)
    refine lv_iconst (v := iI 0) hx hb dX4_groups_14 (by decide) ?_
    refine lv_istore_n (lv' := [(3, .int (iI 0)), (2, .int (iI 0)), (0, .ref (q 0)), (1, .int (iI k))]) hx hb dX4_groups_15 rfl hl (by decide) rfl (fun ls hl => ?_)
    have hloop16 : ∀ (n : Nat) (n1 : Int) (i1 : Int) (hmu : 6 - i1 = (n : Int)) (hi16_0 : n1 = itr (fun g n => n + (if (k = 0 ∧ 0 < mHoles z g) ∨ (k = 1 ∧ (z 1 = 1 ∧ ¬ zg z g 5 = 0 ∧ mPlace z g (zg z g 5) = 0)) ∨ (k = 2 ∧ mTold z g 0 = -6) then 2 ^ g.toNat else 0)) 0 (i1).toNat) (hi16_1 : 0 ≤ i1 ∧ i1 ≤ 6) (hi16_2 : 0 ≤ n1 ∧ n1 < 2 ^ (i1).toNat) (H : Heap) (locs : List Loc) (ls : Array Slot), va_P E.1 vwCl (wM E q z pa sl sv sp pd od pm ty om st wr) H → va_D A (wM E q z pa sl sv sp pd od pm ty om st wr) → va_S A s.heap H locs → lv_has ls 5 [(3, .int (iI i1)), (2, .int (iI n1)), (0, .ref (q 0)), (1, .int (iI k))] → W p l e (zR 4 92) s m ([.ref (q 0), .int (iI k)] : List Value).toArray below meth c H locs 0 0 (MQ below (zQ E A (S := Unit) (fun x _ => x = (if ¬ (0 ≤ k ∧ k ≤ 2) then -2 else mSet z k)) (fun _ => wM E q z pa sl sv sp pd od pm ty om st wr)) ([.ref (q 0), .int (iI k)] : List Value).toArray s 0 0 A) (F0 m 16 ls []) := by
      intro n
      induction n using Nat.strongRecOn with
      | ind n ih16 =>
        intro n1 i1 hmu16 hi16_0 hi16_1 hi16_2 H locs ls hP hD hS hl
        refine lv_iload_n hx hb dX4_groups_16 rfl (lv_at hl 0 rfl) ?_
        refine lv_bipush (v := iI 6) hx hb dX4_groups_17 (by decide) ?_
        refine z_icmp_ge (tgt := 94) hx hb dX4_groups_19 (by decide) ⟨by first | omega | exact (hz _ _ (by omega)).1 | exact (hz _ _ (by omega)).2, by first | omega | exact (hz _ _ (by omega)).1 | exact (hz _ _ (by omega)).2⟩ ⟨by first | omega | exact (hz _ _ (by omega)).1 | exact (hz _ _ (by omega)).2, by first | omega | exact (hz _ _ (by omega)).1 | exact (hz _ _ (by omega)).2⟩ (fun c_19 => ?_) (fun c_19 => ?_)
        · refine lv_iload_n hx hb dX4_groups_94 rfl (lv_at hl 1 rfl) ?_
          exact z_iret hx hb hr hlocks hK hS () (by first | rw [if_pos (by omega)] | (rw [if_neg (by omega), hi16_0, show i1 = 6 by omega]; rfl)) hP hD dX4_groups_95
        · have hgi := hm i1 (by omega) (by omega)
          have hh := mHoles_rg (z := z) (g := i1) hgi
          have ht := mTold_rg (z := z) (g := i1) (n := 0) hgi.1
          refine lv_iload_n hx hb dX4_groups_22 rfl (lv_at hl 3 rfl) ?_
          refine z_if_ne (tgt := 42) hx hb dX4_groups_23 (by decide) ⟨by first | omega | exact (hz _ _ (by omega)).1 | exact (hz _ _ (by omega)).2, by first | omega | exact (hz _ _ (by omega)).1 | exact (hz _ _ (by omega)).2⟩ (fun c_23 => ?_) (fun c_23 => ?_)
          · refine lv_iload_n hx hb dX4_groups_42 rfl (lv_at hl 3 rfl) ?_
            refine lv_iconst (v := iI 1) hx hb dX4_groups_43 (by decide) ?_
            refine z_icmp_ne (tgt := 55) hx hb dX4_groups_44 (by decide) ⟨by first | omega | exact (hz _ _ (by omega)).1 | exact (hz _ _ (by omega)).2, by first | omega | exact (hz _ _ (by omega)).1 | exact (hz _ _ (by omega)).2⟩ ⟨by first | omega | exact (hz _ _ (by omega)).1 | exact (hz _ _ (by omega)).2, by first | omega | exact (hz _ _ (by omega)).1 | exact (hz _ _ (by omega)).2⟩ (fun c_44 => ?_) (fun c_44 => ?_)
            · refine lv_aload_n hx hb dX4_groups_55 rfl (lv_at hl 2 rfl) ?_
              refine lv_iload_n hx hb dX4_groups_56 rfl (lv_at hl 0 rfl) ?_
              refine lv_iconst (v := iI 0) hx hb dX4_groups_57 (by decide) ?_
              refine z_callV0 (ci := 4) (qk := 0) (As := [.int (iI i1), .int (iI 0)]) (rest := []) hx hb hml hown hts hK hA hl.1 hP hD hS (c_X4_told l E q z pa sl sv sp pd od pm ty om st wr i1 0  (by first | omega | exact hz _ _ (by omega) | exact hz | exact ⟨by omega, by omega⟩ | exact hm | exact hcz | exact ⟨by omega, by omega⟩ | exact hb1r) (by first | omega | exact hz _ _ (by omega) | exact hz | exact ⟨by omega, by omega⟩ | exact hm | exact hcz | exact ⟨by omega, by omega⟩ | exact hb1r) (by first | omega | exact hz _ _ (by omega) | exact hz | exact ⟨by omega, by omega⟩ | exact hm | exact hcz | exact ⟨by omega, by omega⟩ | exact hb1r) (by first | omega | exact hz _ _ (by omega) | exact hz | exact ⟨by omega, by omega⟩ | exact hm | exact hcz | exact ⟨by omega, by omega⟩ | exact hb1r) (by first | omega | exact hz _ _ (by omega) | exact hz | exact ⟨by omega, by omega⟩ | exact hm | exact hcz | exact ⟨by omega, by omega⟩ | exact hb1r)) gX4_groups_X4_told rfl ndX4_told ⟨Nat.le_of_ble_eq_true rfl, Nat.le_of_ble_eq_true rfl⟩ rfl rfl rfl rfl rfl (Nat.le_of_ble_eq_true rfl) dX4_groups_58 ⟨Nat.le_of_ble_eq_true rfl, Nat.le_of_ble_eq_true rfl⟩ (fun x u H locs hpost hP hD hS => ?_)
              subst hpost
              have hP : va_P E.1 vwCl (wM E q z pa sl sv sp pd od pm ty om st wr) H := hP
              have hD : va_D A (wM E q z pa sl sv sp pd od pm ty om st wr) := hD
              refine lv_bipush (v := iI (-6)) hx hb dX4_groups_61 (by decide) ?_
              refine z_icmp_ne (tgt := 70) hx hb dX4_groups_63 (by decide) ⟨by first | omega | exact (hz _ _ (by omega)).1 | exact (hz _ _ (by omega)).2, by first | omega | exact (hz _ _ (by omega)).1 | exact (hz _ _ (by omega)).2⟩ ⟨by first | omega | exact (hz _ _ (by omega)).1 | exact (hz _ _ (by omega)).2, by first | omega | exact (hz _ _ (by omega)).1 | exact (hz _ _ (by omega)).2⟩ (fun c_63 => ?_) (fun c_63 => ?_)
              · refine lv_iconst (v := iI 0) hx hb dX4_groups_70 (by decide) ?_
                refine lv_istore (lv' := [(4, .int (iI 0)), (3, .int (iI i1)), (2, .int (iI n1)), (0, .ref (q 0)), (1, .int (iI k))]) hx hb dX4_groups_71 hl (by decide) rfl (fun ls hl => ?_)
                refine lv_iload_n hx hb dX4_groups_73 rfl (lv_at hl 2 rfl) ?_
                refine lv_iload hx hb dX4_groups_74 (lv_at hl 0 rfl) ?_
                refine z_if_eq (tgt := 85) hx hb dX4_groups_76 (by decide) ⟨by first | omega | exact (hz _ _ (by omega)).1 | exact (hz _ _ (by omega)).2, by first | omega | exact (hz _ _ (by omega)).1 | exact (hz _ _ (by omega)).2⟩ (fun c_76 => ?_) (fun c_76 => absurd c_76 (by omega))
                refine lv_iconst (v := iI 0) hx hb dX4_groups_85 (by decide) ?_
                refine lv_ior hx hb dX4_groups_86 ?_
                rw [ior_0]
                refine lv_istore_n (lv' := [(2, .int (iI n1)), (4, .int (iI 0)), (3, .int (iI i1)), (0, .ref (q 0)), (1, .int (iI k))]) hx hb dX4_groups_87 rfl hl (by decide) rfl (fun ls hl => ?_)
                refine lv_iinc (v := iI (i1 + 1)) (lv' := [(3, .int (iI (i1 + 1))), (2, .int (iI n1)), (4, .int (iI 0)), (0, .ref (q 0)), (1, .int (iI k))]) hx hb dX4_groups_88 hl (k := 2) rfl (iI_add _ _) (by decide) rfl (fun ls hl => ?_)
                refine lv_goto (tgt := 16) hx hb dX4_groups_91 (by decide) ?_
                exact ih16 (6 - (i1 + 1) : Int).toNat (by omega) n1 (i1 + 1) (by omega) (by rw [itr_step (by omega), ← hi16_0]; first | rw [if_pos (by omega)] | rw [if_neg (by omega)]; all_goals omega) (by omega) (by rw [show (i1 + 1).toNat = i1.toNat + 1 by omega, Int.pow_succ]; omega) _ _ ls hP hD hS (lv_sub hl [0, 1, 3, 4] rfl)
              · refine lv_iconst (v := iI 1) hx hb dX4_groups_66 (by decide) ?_
                refine lv_goto (tgt := 71) hx hb dX4_groups_67 (by decide) ?_
                refine lv_istore (lv' := [(4, .int (iI 1)), (3, .int (iI i1)), (2, .int (iI n1)), (0, .ref (q 0)), (1, .int (iI k))]) hx hb dX4_groups_71 hl (by decide) rfl (fun ls hl => ?_)
                refine lv_iload_n hx hb dX4_groups_73 rfl (lv_at hl 2 rfl) ?_
                refine lv_iload hx hb dX4_groups_74 (lv_at hl 0 rfl) ?_
                refine z_if_eq (tgt := 85) hx hb dX4_groups_76 (by decide) ⟨by first | omega | exact (hz _ _ (by omega)).1 | exact (hz _ _ (by omega)).2, by first | omega | exact (hz _ _ (by omega)).1 | exact (hz _ _ (by omega)).2⟩ (fun c_76 => absurd c_76 (by omega)) (fun c_76 => ?_)
                refine lv_iconst (v := iI 1) hx hb dX4_groups_79 (by decide) ?_
                refine lv_iload_n hx hb dX4_groups_80 rfl (lv_at hl 1 rfl) ?_
                refine lv_ishl hx hb dX4_groups_81 ?_
                rw [sh1 (by omega) (by omega)]
                refine lv_goto (tgt := 86) hx hb dX4_groups_82 (by decide) ?_
                refine lv_ior hx hb dX4_groups_86 ?_
                rw [ior_p (by omega) (by omega) (hi16_2)]
                refine lv_istore_n (lv' := [(2, .int (iI (n1 + (2 ^ (i1).toNat)))), (4, .int (iI 1)), (3, .int (iI i1)), (0, .ref (q 0)), (1, .int (iI k))]) hx hb dX4_groups_87 rfl hl (by decide) rfl (fun ls hl => ?_)
                refine lv_iinc (v := iI (i1 + 1)) (lv' := [(3, .int (iI (i1 + 1))), (2, .int (iI (n1 + (2 ^ (i1).toNat)))), (4, .int (iI 1)), (0, .ref (q 0)), (1, .int (iI k))]) hx hb dX4_groups_88 hl (k := 2) rfl (iI_add _ _) (by decide) rfl (fun ls hl => ?_)
                refine lv_goto (tgt := 16) hx hb dX4_groups_91 (by decide) ?_
                exact ih16 (6 - (i1 + 1) : Int).toNat (by omega) (n1 + (2 ^ (i1).toNat)) (i1 + 1) (by omega) (by rw [itr_step (by omega), ← hi16_0]; first | rw [if_pos (by omega)] | rw [if_neg (by omega)]; all_goals omega) (by omega) (by rw [show (i1 + 1).toNat = i1.toNat + 1 by omega, Int.pow_succ]; omega) _ _ ls hP hD hS (lv_sub hl [0, 1, 3, 4] rfl)
            · refine lv_aload_n hx hb dX4_groups_47 rfl (lv_at hl 2 rfl) ?_
              refine lv_iload_n hx hb dX4_groups_48 rfl (lv_at hl 0 rfl) ?_
              refine z_callV0 (ci := 4) (qk := 0) (As := [.int (iI i1)]) (rest := []) hx hb hml hown hts hK hA hl.1 hP hD hS (c_X4_isNewestMade l E q z pa sl sv sp pd od pm ty om st wr i1  (by first | omega | exact hz _ _ (by omega) | exact hz | exact ⟨by omega, by omega⟩ | exact hm | exact hcz | exact ⟨by omega, by omega⟩ | exact hb1r) (by first | omega | exact hz _ _ (by omega) | exact hz | exact ⟨by omega, by omega⟩ | exact hm | exact hcz | exact ⟨by omega, by omega⟩ | exact hb1r) (by first | omega | exact hz _ _ (by omega) | exact hz | exact ⟨by omega, by omega⟩ | exact hm | exact hcz | exact ⟨by omega, by omega⟩ | exact hb1r) (by first | omega | exact hz _ _ (by omega) | exact hz | exact ⟨by omega, by omega⟩ | exact hm | exact hcz | exact ⟨by omega, by omega⟩ | exact hb1r)) gX4_groups_X4_isNewestMade rfl ndX4_isNewestMade ⟨Nat.le_of_ble_eq_true rfl, Nat.le_of_ble_eq_true rfl⟩ rfl rfl rfl rfl rfl (Nat.le_of_ble_eq_true rfl) dX4_groups_49 ⟨Nat.le_of_ble_eq_true rfl, Nat.le_of_ble_eq_true rfl⟩ (fun x u H locs hpost hP hD hS => ?_)
              subst hpost
              have hP : va_P E.1 vwCl (wM E q z pa sl sv sp pd od pm ty om st wr) H := hP
              have hD : va_D A (wM E q z pa sl sv sp pd od pm ty om st wr) := hD
              refine lv_goto (tgt := 71) hx hb dX4_groups_52 (by decide) ?_
              refine lv_istore (lv' := [(4, .int (iI (zb (z 1 = 1 ∧ ¬ zg z i1 5 = 0 ∧ mPlace z i1 (zg z i1 5) = 0)))), (3, .int (iI i1)), (2, .int (iI n1)), (0, .ref (q 0)), (1, .int (iI k))]) hx hb dX4_groups_71 hl (by decide) rfl (fun ls hl => ?_)
              refine lv_iload_n hx hb dX4_groups_73 rfl (lv_at hl 2 rfl) ?_
              refine lv_iload hx hb dX4_groups_74 (lv_at hl 0 rfl) ?_
              refine z_ifb_eq (tgt := 85) hx hb dX4_groups_76 (by decide) (fun c_76 => ?_) (fun c_76 => ?_)
              · refine lv_iconst (v := iI 0) hx hb dX4_groups_85 (by decide) ?_
                refine lv_ior hx hb dX4_groups_86 ?_
                rw [ior_0]
                refine lv_istore_n (lv' := [(2, .int (iI n1)), (4, .int (iI (zb (z 1 = 1 ∧ ¬ zg z i1 5 = 0 ∧ mPlace z i1 (zg z i1 5) = 0)))), (3, .int (iI i1)), (0, .ref (q 0)), (1, .int (iI k))]) hx hb dX4_groups_87 rfl hl (by decide) rfl (fun ls hl => ?_)
                refine lv_iinc (v := iI (i1 + 1)) (lv' := [(3, .int (iI (i1 + 1))), (2, .int (iI n1)), (4, .int (iI (zb (z 1 = 1 ∧ ¬ zg z i1 5 = 0 ∧ mPlace z i1 (zg z i1 5) = 0)))), (0, .ref (q 0)), (1, .int (iI k))]) hx hb dX4_groups_88 hl (k := 2) rfl (iI_add _ _) (by decide) rfl (fun ls hl => ?_)
                refine lv_goto (tgt := 16) hx hb dX4_groups_91 (by decide) ?_
                exact ih16 (6 - (i1 + 1) : Int).toNat (by omega) n1 (i1 + 1) (by omega) (by rw [itr_step (by omega), ← hi16_0]; first | rw [if_pos (by omega)] | rw [if_neg (by omega)]; all_goals omega) (by omega) (by rw [show (i1 + 1).toNat = i1.toNat + 1 by omega, Int.pow_succ]; omega) _ _ ls hP hD hS (lv_sub hl [0, 1, 3, 4] rfl)
              · refine lv_iconst (v := iI 1) hx hb dX4_groups_79 (by decide) ?_
                refine lv_iload_n hx hb dX4_groups_80 rfl (lv_at hl 1 rfl) ?_
                refine lv_ishl hx hb dX4_groups_81 ?_
                rw [sh1 (by omega) (by omega)]
                refine lv_goto (tgt := 86) hx hb dX4_groups_82 (by decide) ?_
                refine lv_ior hx hb dX4_groups_86 ?_
                rw [ior_p (by omega) (by omega) (hi16_2)]
                refine lv_istore_n (lv' := [(2, .int (iI (n1 + (2 ^ (i1).toNat)))), (4, .int (iI (zb (z 1 = 1 ∧ ¬ zg z i1 5 = 0 ∧ mPlace z i1 (zg z i1 5) = 0)))), (3, .int (iI i1)), (0, .ref (q 0)), (1, .int (iI k))]) hx hb dX4_groups_87 rfl hl (by decide) rfl (fun ls hl => ?_)
                refine lv_iinc (v := iI (i1 + 1)) (lv' := [(3, .int (iI (i1 + 1))), (2, .int (iI (n1 + (2 ^ (i1).toNat)))), (4, .int (iI (zb (z 1 = 1 ∧ ¬ zg z i1 5 = 0 ∧ mPlace z i1 (zg z i1 5) = 0)))), (0, .ref (q 0)), (1, .int (iI k))]) hx hb dX4_groups_88 hl (k := 2) rfl (iI_add _ _) (by decide) rfl (fun ls hl => ?_)
                refine lv_goto (tgt := 16) hx hb dX4_groups_91 (by decide) ?_
                exact ih16 (6 - (i1 + 1) : Int).toNat (by omega) (n1 + (2 ^ (i1).toNat)) (i1 + 1) (by omega) (by rw [itr_step (by omega), ← hi16_0]; first | rw [if_pos (by omega)] | rw [if_neg (by omega)]; all_goals omega) (by omega) (by rw [show (i1 + 1).toNat = i1.toNat + 1 by omega, Int.pow_succ]; omega) _ _ ls hP hD hS (lv_sub hl [0, 1, 3, 4] rfl)
          · refine lv_aload_n hx hb dX4_groups_26 rfl (lv_at hl 2 rfl) ?_
            refine lv_iload_n hx hb dX4_groups_27 rfl (lv_at hl 0 rfl) ?_
            refine z_callV0 (ci := 4) (qk := 0) (As := [.int (iI i1)]) (rest := []) hx hb hml hown hts hK hA hl.1 hP hD hS (c_X4_holes l E q z pa sl sv sp pd od pm ty om st wr i1  (by first | omega | exact hz _ _ (by omega) | exact hz | exact ⟨by omega, by omega⟩ | exact hm | exact hcz | exact ⟨by omega, by omega⟩ | exact hb1r) (by first | omega | exact hz _ _ (by omega) | exact hz | exact ⟨by omega, by omega⟩ | exact hm | exact hcz | exact ⟨by omega, by omega⟩ | exact hb1r) (by first | omega | exact hz _ _ (by omega) | exact hz | exact ⟨by omega, by omega⟩ | exact hm | exact hcz | exact ⟨by omega, by omega⟩ | exact hb1r)) gX4_groups_X4_holes rfl ndX4_holes ⟨Nat.le_of_ble_eq_true rfl, Nat.le_of_ble_eq_true rfl⟩ rfl rfl rfl rfl rfl (Nat.le_of_ble_eq_true rfl) dX4_groups_28 ⟨Nat.le_of_ble_eq_true rfl, Nat.le_of_ble_eq_true rfl⟩ (fun x u H locs hpost hP hD hS => ?_)
            subst hpost
            have hP : va_P E.1 vwCl (wM E q z pa sl sv sp pd od pm ty om st wr) H := hP
            have hD : va_D A (wM E q z pa sl sv sp pd od pm ty om st wr) := hD
            refine z_if_le (tgt := 38) hx hb dX4_groups_31 (by decide) ⟨by first | omega | exact (hz _ _ (by omega)).1 | exact (hz _ _ (by omega)).2, by first | omega | exact (hz _ _ (by omega)).1 | exact (hz _ _ (by omega)).2⟩ (fun c_31 => ?_) (fun c_31 => ?_)
            · refine lv_iconst (v := iI 0) hx hb dX4_groups_38 (by decide) ?_
              refine lv_goto (tgt := 71) hx hb dX4_groups_39 (by decide) ?_
              refine lv_istore (lv' := [(4, .int (iI 0)), (3, .int (iI i1)), (2, .int (iI n1)), (0, .ref (q 0)), (1, .int (iI k))]) hx hb dX4_groups_71 hl (by decide) rfl (fun ls hl => ?_)
              refine lv_iload_n hx hb dX4_groups_73 rfl (lv_at hl 2 rfl) ?_
              refine lv_iload hx hb dX4_groups_74 (lv_at hl 0 rfl) ?_
              refine z_if_eq (tgt := 85) hx hb dX4_groups_76 (by decide) ⟨by first | omega | exact (hz _ _ (by omega)).1 | exact (hz _ _ (by omega)).2, by first | omega | exact (hz _ _ (by omega)).1 | exact (hz _ _ (by omega)).2⟩ (fun c_76 => ?_) (fun c_76 => absurd c_76 (by omega))
              refine lv_iconst (v := iI 0) hx hb dX4_groups_85 (by decide) ?_
              refine lv_ior hx hb dX4_groups_86 ?_
              rw [ior_0]
              refine lv_istore_n (lv' := [(2, .int (iI n1)), (4, .int (iI 0)), (3, .int (iI i1)), (0, .ref (q 0)), (1, .int (iI k))]) hx hb dX4_groups_87 rfl hl (by decide) rfl (fun ls hl => ?_)
              refine lv_iinc (v := iI (i1 + 1)) (lv' := [(3, .int (iI (i1 + 1))), (2, .int (iI n1)), (4, .int (iI 0)), (0, .ref (q 0)), (1, .int (iI k))]) hx hb dX4_groups_88 hl (k := 2) rfl (iI_add _ _) (by decide) rfl (fun ls hl => ?_)
              refine lv_goto (tgt := 16) hx hb dX4_groups_91 (by decide) ?_
              exact ih16 (6 - (i1 + 1) : Int).toNat (by omega) n1 (i1 + 1) (by omega) (by rw [itr_step (by omega), ← hi16_0]; first | rw [if_pos (by omega)] | rw [if_neg (by omega)]; all_goals omega) (by omega) (by rw [show (i1 + 1).toNat = i1.toNat + 1 by omega, Int.pow_succ]; omega) _ _ ls hP hD hS (lv_sub hl [0, 1, 3, 4] rfl)
            · refine lv_iconst (v := iI 1) hx hb dX4_groups_34 (by decide) ?_
              refine lv_goto (tgt := 71) hx hb dX4_groups_35 (by decide) ?_
              refine lv_istore (lv' := [(4, .int (iI 1)), (3, .int (iI i1)), (2, .int (iI n1)), (0, .ref (q 0)), (1, .int (iI k))]) hx hb dX4_groups_71 hl (by decide) rfl (fun ls hl => ?_)
              refine lv_iload_n hx hb dX4_groups_73 rfl (lv_at hl 2 rfl) ?_
              refine lv_iload hx hb dX4_groups_74 (lv_at hl 0 rfl) ?_
              refine z_if_eq (tgt := 85) hx hb dX4_groups_76 (by decide) ⟨by first | omega | exact (hz _ _ (by omega)).1 | exact (hz _ _ (by omega)).2, by first | omega | exact (hz _ _ (by omega)).1 | exact (hz _ _ (by omega)).2⟩ (fun c_76 => absurd c_76 (by omega)) (fun c_76 => ?_)
              refine lv_iconst (v := iI 1) hx hb dX4_groups_79 (by decide) ?_
              refine lv_iload_n hx hb dX4_groups_80 rfl (lv_at hl 1 rfl) ?_
              refine lv_ishl hx hb dX4_groups_81 ?_
              rw [sh1 (by omega) (by omega)]
              refine lv_goto (tgt := 86) hx hb dX4_groups_82 (by decide) ?_
              refine lv_ior hx hb dX4_groups_86 ?_
              rw [ior_p (by omega) (by omega) (hi16_2)]
              refine lv_istore_n (lv' := [(2, .int (iI (n1 + (2 ^ (i1).toNat)))), (4, .int (iI 1)), (3, .int (iI i1)), (0, .ref (q 0)), (1, .int (iI k))]) hx hb dX4_groups_87 rfl hl (by decide) rfl (fun ls hl => ?_)
              refine lv_iinc (v := iI (i1 + 1)) (lv' := [(3, .int (iI (i1 + 1))), (2, .int (iI (n1 + (2 ^ (i1).toNat)))), (4, .int (iI 1)), (0, .ref (q 0)), (1, .int (iI k))]) hx hb dX4_groups_88 hl (k := 2) rfl (iI_add _ _) (by decide) rfl (fun ls hl => ?_)
              refine lv_goto (tgt := 16) hx hb dX4_groups_91 (by decide) ?_
              exact ih16 (6 - (i1 + 1) : Int).toNat (by omega) (n1 + (2 ^ (i1).toNat)) (i1 + 1) (by omega) (by rw [itr_step (by omega), ← hi16_0]; first | rw [if_pos (by omega)] | rw [if_neg (by omega)]; all_goals omega) (by omega) (by rw [show (i1 + 1).toNat = i1.toNat + 1 by omega, Int.pow_succ]; omega) _ _ ls hP hD hS (lv_sub hl [0, 1, 3, 4] rfl)
    exact hloop16 (6 - 0 : Int).toNat 0 0 (by omega) (rfl) (by omega) (by decide) _ _ ls hP hD hS (lv_sub hl [0, 1, 2, 3] rfl)
  · refine lv_bipush (v := iI (-2)) hx hb dX4_groups_9 (by decide) ?_
    exact z_iret hx hb hr hlocks hK hS () (by first | rw [if_pos (by omega)] | (rw [if_neg (by omega), hi16_0, show i1 = 6 by omega]; rfl)) hP hD dX4_groups_11
