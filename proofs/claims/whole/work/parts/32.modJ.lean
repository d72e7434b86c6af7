theorem ndX4_fault : yX4_fault.cls = RX4 ∧ yX4_fault.cls ≠ "java/lang/invoke/MethodHandle" ∧ yX4_fault.cls ≠ "java/lang/invoke/VarHandle" ∧ (parseMethodDescriptor yX4_fault.desc).map (fun d => d.parameters.length) = some 0 := by decide +kernel
set_option maxRecDepth 100000 in
set_option maxHeartbeats 1000000 in
theorem c_X4_fault (l : Launch) (E : zE) (q : Nat → Nat) (z pa sl sv sp pd od : Int → Int) (pm ty om st wr : Int) (h0 : PD pd ty) (h1 : 0 ≤ ty ∧ ty ≤ 80) : zF l E yX4_fault wsX4_fault 5 111 [.ref (q 0)] (wM E q z pa sl sv sp pd od pm ty om st wr) ((rp pd ty od).1) (wM E q z pa sl sv sp pd ((rp pd ty od).2.2.2) pm ty ((rp pd ty od).2.2.1) ((rp pd ty od).2.1) ((rp pd ty od).1)) := by
  refine zC_of (cc := cX4_fault) (maxL := 1) (by decide) rfl (Nat.le_of_ble_eq_true rfl) ?_
  intro p e s m below meth c ls A hx hb hr hts hown hlocks hml hK hA hS hP hD hl
  have hown : s.vm.findClass RX4 = some m.cls := hown
  have hl : lv_has ls 1 [(0, .ref (q 0))] := hl
  refine lv_aload_n hx hb dX4_fault_0 rfl (lv_at hl 0 rfl) ?_
  refine z_callV0 (ci := 4) (qk := 0) (As := []) (rest := []) hx hb hml hown hts hK hA hl.1 hP hD hS (c_X4_readPad l E q z pa sl sv sp pd od pm ty om st wr   (by first | omega | exact h0) (by first | omega | exact h0)) gX4_fault_X4_readPad rfl ndX4_readPad ⟨Nat.le_of_ble_eq_true rfl, Nat.le_of_ble_eq_true rfl⟩ rfl rfl rfl rfl rfl (Nat.le_of_ble_eq_true rfl) dX4_fault_1 ⟨Nat.le_of_ble_eq_true rfl, Nat.le_of_ble_eq_true rfl⟩ (fun x u H locs hpost hP hD hS => ?_)
  subst hpost
  have hP : va_P E.1 vwCl (wM E q z pa sl sv sp pd ((rp pd ty od).2.2.2) pm ty ((rp pd ty od).2.2.1) ((rp pd ty od).2.1) ((rp pd ty od).1)) H := hP
  have hD : va_D A (wM E q z pa sl sv sp pd ((rp pd ty od).2.2.2) pm ty ((rp pd ty od).2.2.1) ((rp pd ty od).2.1) ((rp pd ty od).1)) := hD
  exact z_iret hx hb hr hlocks hK hS () (by first | rfl | trivial | exact zb_t' (by omega) | exact zb_f' (by omega) | omega) hP hD dX4_fault_4

theorem ndX4_can : yX4_can.cls = RX4 ∧ yX4_can.cls ≠ "java/lang/invoke/MethodHandle" ∧ yX4_can.cls ≠ "java/lang/invoke/VarHandle" ∧ (parseMethodDescriptor yX4_can.desc).map (fun d => d.parameters.length) = some 3 := by decide +kernel
set_option maxRecDepth 100000 in
set_option maxHeartbeats 1000000 in
theorem c_X4_can (l : Launch) (E : zE) (q : Nat → Nat) (z pa sl sv sp pd od : Int → Int) (pm ty om st wr : Int) (ch : Int) (g : Int) (n : Int) (h0 : rg ch) (h1 : ch = 119 ∨ ch = 100 → 0 ≤ g ∧ g ≤ 5 ∧ -7 ≤ n ∧ n ≤ 1) (h2 : MI z) : zF l E yX4_can wsX4_can 5 115 [.ref (q 0), .int (iI ch), .int (iI g), .int (iI n)] (wM E q z pa sl sv sp pd od pm ty om st wr) (zb (canP z ch g n)) (wM E q z pa sl sv sp pd od pm ty om st wr) := by
  obtain ⟨hz, hmi, hb1, hb2, hb6⟩ := id h2
  have hm : AG z := fun g a b => (hmi g a b).1
  refine zC_of (cc := cX4_can) (maxL := 4) (by decide) rfl (Nat.le_of_ble_eq_true rfl) ?_
  intro p e s m below meth c ls A hx hb hr hts hown hlocks hml hK hA hS hP hD hl
  have hown : s.vm.findClass RX4 = some m.cls := hown
  have hl : lv_has ls 4 [(0, .ref (q 0)), (1, .int (iI ch)), (2, .int (iI g)), (3, .int (iI n))] := hl
  refine lv_iload_n hx hb dX4_can_0 rfl (lv_at hl 1 rfl) ?_
  by_cases sw_1_0 : ch = 97
  · refine lv_lookup (off := 77) (tgt := 78) hx hb dX4_can_1 (by decide) (by rw [toInt_iI ⟨by omega, by omega⟩, sw_1_0]; rfl) (by decide) ?_
    refine lv_aload_n hx hb dX4_can_78 rfl (lv_at hl 0 rfl) ?_
    refine z_callV0 (ci := 4) (qk := 0) (As := []) (rest := []) hx hb hml hown hts hK hA hl.1 hP hD hS (c_X4_canAgain l E q z pa sl sv sp pd od pm ty om st wr   (by first | omega | exact hz | exact hm | exact ⟨by omega, by omega⟩) (by first | omega | exact hz | exact hm | exact ⟨by omega, by omega⟩)) gX4_can_X4_canAgain rfl ndX4_canAgain ⟨Nat.le_of_ble_eq_true rfl, Nat.le_of_ble_eq_true rfl⟩ rfl rfl rfl rfl rfl (Nat.le_of_ble_eq_true rfl) dX4_can_79 ⟨Nat.le_of_ble_eq_true rfl, Nat.le_of_ble_eq_true rfl⟩ (fun x u H locs hpost hP hD hS => ?_)
    subst hpost
    have hP : va_P E.1 vwCl (wM E q z pa sl sv sp pd od pm ty om st wr) H := hP
    have hD : va_D A (wM E q z pa sl sv sp pd od pm ty om st wr) := hD
    exact z_zret hx hb hr hlocks hK hS zb_01 () (by first | exact zb_t' (by omega) | exact zb_f' (by omega) | exact zb_congr (by omega)) hP hD dX4_can_82
  by_cases sw_1_1 : ch = 100
  · refine lv_lookup (off := 89) (tgt := 90) hx hb dX4_can_1 (by decide) (by rw [toInt_iI ⟨by omega, by omega⟩, sw_1_1]; rfl) (by decide) ?_
    have hgi := hmi g (by omega) (by omega)
    have ht := mTold_rg (z := z) (g := g) (n := n) hgi.1.1
    refine lv_aload_n hx hb dX4_can_90 rfl (lv_at hl 0 rfl) ?_
    refine lv_iload_n hx hb dX4_can_91 rfl (lv_at hl 2 rfl) ?_
    refine lv_iload_n hx hb dX4_can_92 rfl (lv_at hl 3 rfl) ?_
    refine z_callV0 (ci := 4) (qk := 0) (As := [.int (iI g), .int (iI n)]) (rest := []) hx hb hml hown hts hK hA hl.1 hP hD hS (c_X4_told l E q z pa sl sv sp pd od pm ty om st wr g n  (by first | omega | exact hz | exact hm | exact ⟨by omega, by omega⟩) (by first | omega | exact hz | exact hm | exact ⟨by omega, by omega⟩) (by first | omega | exact hz | exact hm | exact ⟨by omega, by omega⟩) (by first | omega | exact hz | exact hm | exact ⟨by omega, by omega⟩) (by first | omega | exact hz | exact hm | exact ⟨by omega, by omega⟩)) gX4_can_X4_told rfl ndX4_told ⟨Nat.le_of_ble_eq_true rfl, Nat.le_of_ble_eq_true rfl⟩ rfl rfl rfl rfl rfl (Nat.le_of_ble_eq_true rfl) dX4_can_93 ⟨Nat.le_of_ble_eq_true rfl, Nat.le_of_ble_eq_true rfl⟩ (fun x u H locs hpost hP hD hS => ?_)
    subst hpost
    have hP : va_P E.1 vwCl (wM E q z pa sl sv sp pd od pm ty om st wr) H := hP
    have hD : va_D A (wM E q z pa sl sv sp pd od pm ty om st wr) := hD
    refine lv_bipush (v := iI (-6)) hx hb dX4_can_96 (by decide) ?_
    refine z_icmp_eq (tgt := 105) hx hb dX4_can_98 (by decide) ⟨by first | omega | exact (hz _ _ (by omega)).1 | exact (hz _ _ (by omega)).2, by first | omega | exact (hz _ _ (by omega)).1 | exact (hz _ _ (by omega)).2⟩ ⟨by first | omega | exact (hz _ _ (by omega)).1 | exact (hz _ _ (by omega)).2, by first | omega | exact (hz _ _ (by omega)).1 | exact (hz _ _ (by omega)).2⟩ (fun c_98 => ?_) (fun c_98 => ?_)
    · refine lv_iconst (v := iI 0) hx hb dX4_can_105 (by decide) ?_
      exact z_zret hx hb hr hlocks hK hS (Or.inl rfl) () (by first | exact zb_t' (by omega) | exact zb_f' (by omega) | exact zb_congr (by omega)) hP hD dX4_can_106
    · refine lv_iconst (v := iI 1) hx hb dX4_can_101 (by decide) ?_
      refine lv_goto (tgt := 106) hx hb dX4_can_102 (by decide) ?_
      exact z_zret hx hb hr hlocks hK hS (Or.inr rfl) () (by first | exact zb_t' (by omega) | exact zb_f' (by omega) | exact zb_congr (by omega)) hP hD dX4_can_106
  by_cases sw_1_2 : ch = 102
  · refine lv_lookup (off := 72) (tgt := 73) hx hb dX4_can_1 (by decide) (by rw [toInt_iI ⟨by omega, by omega⟩, sw_1_2]; rfl) (by decide) ?_
    refine lv_aload_n hx hb dX4_can_73 rfl (lv_at hl 0 rfl) ?_
    refine z_callV0 (ci := 4) (qk := 0) (As := []) (rest := []) hx hb hml hown hts hK hA hl.1 hP hD hS (c_X4_runs l E q z pa sl sv sp pd od pm ty om st wr   (by first | omega | exact hz | exact hm | exact ⟨by omega, by omega⟩)) gX4_can_X4_runs rfl ndX4_runs ⟨Nat.le_of_ble_eq_true rfl, Nat.le_of_ble_eq_true rfl⟩ rfl rfl rfl rfl rfl (Nat.le_of_ble_eq_true rfl) dX4_can_74 ⟨Nat.le_of_ble_eq_true rfl, Nat.le_of_ble_eq_true rfl⟩ (fun x u H locs hpost hP hD hS => ?_)
    subst hpost
    have hP : va_P E.1 vwCl (wM E q z pa sl sv sp pd od pm ty om st wr) H := hP
    have hD : va_D A (wM E q z pa sl sv sp pd od pm ty om st wr) := hD
    exact z_zret hx hb hr hlocks hK hS zb_01 () (by first | exact zb_t' (by omega) | exact zb_f' (by omega) | exact zb_congr (by omega)) hP hD dX4_can_77
  by_cases sw_1_3 : ch = 103
  · refine lv_lookup (off := 72) (tgt := 73) hx hb dX4_can_1 (by decide) (by rw [toInt_iI ⟨by omega, by omega⟩, sw_1_3]; rfl) (by decide) ?_
    refine lv_aload_n hx hb dX4_can_73 rfl (lv_at hl 0 rfl) ?_
    refine z_callV0 (ci := 4) (qk := 0) (As := []) (rest := []) hx hb hml hown hts hK hA hl.1 hP hD hS (c_X4_runs l E q z pa sl sv sp pd od pm ty om st wr   (by first | omega | exact hz | exact hm | exact ⟨by omega, by omega⟩)) gX4_can_X4_runs rfl ndX4_runs ⟨Nat.le_of_ble_eq_true rfl, Nat.le_of_ble_eq_true rfl⟩ rfl rfl rfl rfl rfl (Nat.le_of_ble_eq_true rfl) dX4_can_74 ⟨Nat.le_of_ble_eq_true rfl, Nat.le_of_ble_eq_true rfl⟩ (fun x u H locs hpost hP hD hS => ?_)
    subst hpost
    have hP : va_P E.1 vwCl (wM E q z pa sl sv sp pd od pm ty om st wr) H := hP
    have hD : va_D A (wM E q z pa sl sv sp pd od pm ty om st wr) := hD
    exact z_zret hx hb hr hlocks hK hS zb_01 () (by first | exact zb_t' (by omega) | exact zb_f' (by omega) | exact zb_congr (by omega)) hP hD dX4_can_77
  by_cases sw_1_4 : ch = 106
  · refine lv_lookup (off := 59) (tgt := 60) hx hb dX4_can_1 (by decide) (by rw [toInt_iI ⟨by omega, by omega⟩, sw_1_4]; rfl) (by decide) ?_
    refine lv_aload_n hx hb dX4_can_60 rfl (lv_at hl 0 rfl) ?_
    refine z_callV0 (ci := 4) (qk := 0) (As := []) (rest := []) hx hb hml hown hts hK hA hl.1 hP hD hS (c_X4_runs l E q z pa sl sv sp pd od pm ty om st wr   (by first | omega | exact hz | exact hm | exact ⟨by omega, by omega⟩)) gX4_can_X4_runs rfl ndX4_runs ⟨Nat.le_of_ble_eq_true rfl, Nat.le_of_ble_eq_true rfl⟩ rfl rfl rfl rfl rfl (Nat.le_of_ble_eq_true rfl) dX4_can_61 ⟨Nat.le_of_ble_eq_true rfl, Nat.le_of_ble_eq_true rfl⟩ (fun x u H locs hpost hP hD hS => ?_)
    subst hpost
    have hP : va_P E.1 vwCl (wM E q z pa sl sv sp pd od pm ty om st wr) H := hP
    have hD : va_D A (wM E q z pa sl sv sp pd od pm ty om st wr) := hD
    refine z_ifb_ne (tgt := 71) hx hb dX4_can_64 (by decide) (fun c_64 => ?_) (fun c_64 => ?_)
    · refine lv_iconst (v := iI 0) hx hb dX4_can_71 (by decide) ?_
      exact z_zret hx hb hr hlocks hK hS (Or.inl rfl) () (by first | exact zb_t' (by omega) | exact zb_f' (by omega) | exact zb_congr (by omega)) hP hD dX4_can_72
    · refine lv_iconst (v := iI 1) hx hb dX4_can_67 (by decide) ?_
      refine lv_goto (tgt := 72) hx hb dX4_can_68 (by decide) ?_
      exact z_zret hx hb hr hlocks hK hS (Or.inr rfl) () (by first | exact zb_t' (by omega) | exact zb_f' (by omega) | exact zb_congr (by omega)) hP hD dX4_can_72
  by_cases sw_1_5 : ch = 119
  · refine lv_lookup (off := 82) (tgt := 83) hx hb dX4_can_1 (by decide) (by rw [toInt_iI ⟨by omega, by omega⟩, sw_1_5]; rfl) (by decide) ?_
    have hgi := hmi g (by omega) (by omega)
    refine lv_aload_n hx hb dX4_can_83 rfl (lv_at hl 0 rfl) ?_
    refine lv_iload_n hx hb dX4_can_84 rfl (lv_at hl 2 rfl) ?_
    refine lv_iload_n hx hb dX4_can_85 rfl (lv_at hl 3 rfl) ?_
    refine z_callV0 (ci := 4) (qk := 0) (As := [.int (iI g), .int (iI n)]) (rest := []) hx hb hml hown hts hK hA hl.1 hP hD hS (c_X4_canWrite l E q z pa sl sv sp pd od pm ty om st wr g n  (by first | omega | exact hz | exact hm | exact ⟨by omega, by omega⟩) (by first | omega | exact hz | exact hm | exact ⟨by omega, by omega⟩) (by first | omega | exact hz | exact hm | exact ⟨by omega, by omega⟩) (by first | omega | exact hz | exact hm | exact ⟨by omega, by omega⟩) (by first | omega | exact hz | exact hm | exact ⟨by omega, by omega⟩)) gX4_can_X4_canWrite rfl ndX4_canWrite ⟨Nat.le_of_ble_eq_true rfl, Nat.le_of_ble_eq_true rfl⟩ rfl rfl rfl rfl rfl (Nat.le_of_ble_eq_true rfl) dX4_can_86 ⟨Nat.le_of_ble_eq_true rfl, Nat.le_of_ble_eq_true rfl⟩ (fun x u H locs hpost hP hD hS => ?_)
    subst hpost
    have hP : va_P E.1 vwCl (wM E q z pa sl sv sp pd od pm ty om st wr) H := hP
    have hD : va_D A (wM E q z pa sl sv sp pd od pm ty om st wr) := hD
    exact z_zret hx hb hr hlocks hK hS zb_01 () (by first | exact zb_t' (by omega) | exact zb_f' (by omega) | exact zb_congr (by omega)) hP hD dX4_can_89
  refine lv_lookup (off := 106) (tgt := 107) hx hb dX4_can_1 (by decide) (by rw [toInt_iI ⟨by omega, by omega⟩]; show (if (97 : Int) = ch then (77 : Int) else if (100 : Int) = ch then (89 : Int) else if (102 : Int) = ch then (72 : Int) else if (103 : Int) = ch then (72 : Int) else if (106 : Int) = ch then (59 : Int) else if (119 : Int) = ch then (82 : Int) else (106 : Int)) = (106 : Int); rw [if_neg (by omega), if_neg (by omega), if_neg (by omega), if_neg (by omega), if_neg (by omega), if_neg (by omega)]) (by decide) ?_
  refine lv_iconst (v := iI 1) hx hb dX4_can_107 (by decide) ?_
  exact z_zret hx hb hr hlocks hK hS (Or.inr rfl) () (by first | exact zb_t' (by omega) | exact zb_f' (by omega) | exact zb_congr (by omega)) hP hD dX4_can_108

theorem ndX4_act : yX4_act.cls = RX4 ∧ yX4_act.cls ≠ "java/lang/invoke/MethodHandle" ∧ yX4_act.cls ≠ "java/lang/invoke/VarHandle" ∧ (parseMethodDescriptor yX4_act.desc).map (fun d => d.parameters.length) = some 4 := by decide +kernel
set_option maxRecDepth 100000 in
set_option maxHeartbeats 1000000 in
theorem c_X4_act (l : Launch) (E : zE) (q : Nat → Nat) (z pa sl sv sp pd od : Int → Int) (pm ty om st wr : Int) (ch : Int) (g : Int) (n : Int) (d : Int) (h0 : rg ch) (h1 : ordOk ch g n d) (h2 : canP z ch g n) (h3 : MI z) : zFv l E yX4_act wsX4_act 7 157 [.ref (q 0), .int (iI ch), .int (iI g), .int (iI n), .int (iI d)] (wM E q z pa sl sv sp pd od pm ty om st wr) (wM E q (mAct z ch g n d) pa sl sv sp pd od pm ty om st wr) := by
  obtain ⟨hz, hmi, hb1, hb2, hb6⟩ := id h3
  have hm : AG z := fun g a b => (hmi g a b).1
  unfold ordOk at h1
  unfold canP at h2
  refine zCv_of (cc := cX4_act) (maxL := 5) (by decide) rfl (Nat.le_of_ble_eq_true rfl) ?_
  intro p e s m below meth c ls A hx hb hr hts hown hlocks hml hK hA hS hP hD hl
  have hown : s.vm.findClass RX4 = some m.cls := hown
  have hl : lv_has ls 5 [(0, .ref (q 0)), (1, .int (iI ch)), (2, .int (iI g)), (3, .int (iI n)), (4, .int (iI d))] := hl
  refine lv_iload_n hx hb dX4_act_0 rfl (lv_at hl 1 rfl) ?_
  by_cases sw_1_0 : ch = 97
  · refine lv_lookup (off := 85) (tgt := 86) hx hb dX4_act_1 (by decide) (by rw [toInt_iI ⟨by omega, by omega⟩, sw_1_0]; rfl) (by decide) ?_
    refine lv_aload_n hx hb dX4_act_86 rfl (lv_at hl 0 rfl) ?_
    refine z_callV0 (ci := 4) (qk := 0) (As := []) (rest := []) hx hb hml hown hts hK hA hl.1 hP hD hS (c_X4_start l E q z pa sl sv sp pd od pm ty om st wr   ) gX4_act_X4_start rfl ndX4_start ⟨Nat.le_of_ble_eq_true rfl, Nat.le_of_ble_eq_true rfl⟩ rfl rfl rfl rfl rfl (Nat.le_of_ble_eq_true rfl) dX4_act_87 ⟨Nat.le_of_ble_eq_true rfl, Nat.le_of_ble_eq_true rfl⟩ (fun x u H locs hpost hP hD hS => ?_)
    subst hpost
    have hP : va_P E.1 vwCl (wM E q (mStart z) pa sl sv sp pd od pm ty om st wr) H := hP
    have hD : va_D A (wM E q (mStart z) pa sl sv sp pd od pm ty om st wr) := hD
    refine lv_pop hx hb dX4_act_90 rfl ?_
    refine lv_goto (tgt := 123) hx hb dX4_act_91 (by decide) ?_
    have eqc_z : (mAct z ch g n d) = mStart z := by unfold mAct; (repeat (first | with_reducible rfl | rw [if_pos (by omega)] | rw [if_neg (by omega)]))
    have hP : va_P E.1 vwCl (wM E q (mAct z ch g n d) pa sl sv sp pd od pm ty om st wr) H := by rw [eqc_z]; exact hP
    have hD : va_D A (wM E q (mAct z ch g n d) pa sl sv sp pd od pm ty om st wr) := by rw [eqc_z]; exact hD
    exact z_vret hx hb hr hlocks hK hS () (by first | rfl | trivial | exact zb_t' (by omega) | exact zb_f' (by omega) | omega) hP hD dX4_act_123
  by_cases sw_1_1 : ch = 100
  · refine lv_lookup (off := 105) (tgt := 106) hx hb dX4_act_1 (by decide) (by rw [toInt_iI ⟨by omega, by omega⟩, sw_1_1]; rfl) (by decide) ?_
    have hgi := hmi g (by omega) (by omega)
    refine lv_aload_n hx hb dX4_act_106 rfl (lv_at hl 0 rfl) ?_
    refine lv_iload_n hx hb dX4_act_107 rfl (lv_at hl 2 rfl) ?_
    refine lv_iload_n hx hb dX4_act_108 rfl (lv_at hl 3 rfl) ?_
    refine z_callV0 (ci := 4) (qk := 0) (As := [.int (iI g), .int (iI n)]) (rest := []) hx hb hml hown hts hK hA hl.1 hP hD hS (c_X4_deleteIt l E q z pa sl sv sp pd od pm ty om st wr g n  (by first | omega | exact hz | exact hm | exact ⟨by omega, by omega⟩) (by first | omega | exact hz | exact hm | exact ⟨by omega, by omega⟩) (by first | omega | exact hz | exact hm | exact ⟨by omega, by omega⟩) (by first | omega | exact hz | exact hm | exact ⟨by omega, by omega⟩) (by first | omega | exact hz | exact hm | exact ⟨by omega, by omega⟩) (by first | omega | exact hz | exact hm | exact ⟨by omega, by omega⟩)) gX4_act_X4_deleteIt rfl ndX4_deleteIt ⟨Nat.le_of_ble_eq_true rfl, Nat.le_of_ble_eq_true rfl⟩ rfl rfl rfl rfl rfl (Nat.le_of_ble_eq_true rfl) dX4_act_109 ⟨Nat.le_of_ble_eq_true rfl, Nat.le_of_ble_eq_true rfl⟩ (fun x u H locs hpost hP hD hS => ?_)
    subst hpost
    have hP : va_P E.1 vwCl (wM E q (mDel z g (mTold z g n)) pa sl sv sp pd od pm ty om st wr) H := hP
    have hD : va_D A (wM E q (mDel z g (mTold z g n)) pa sl sv sp pd od pm ty om st wr) := hD
    refine lv_pop hx hb dX4_act_112 rfl ?_
    refine lv_goto (tgt := 123) hx hb dX4_act_113 (by decide) ?_
    have eqc_z : (mAct z ch g n d) = mDel z g (mTold z g n) := by unfold mAct; (repeat (first | with_reducible rfl | rw [if_pos (by omega)] | rw [if_neg (by omega)]))
    have hP : va_P E.1 vwCl (wM E q (mAct z ch g n d) pa sl sv sp pd od pm ty om st wr) H := by rw [eqc_z]; exact hP
    have hD : va_D A (wM E q (mAct z ch g n d) pa sl sv sp pd od pm ty om st wr) := by rw [eqc_z]; exact hD
    exact z_vret hx hb hr hlocks hK hS () (by first | rfl | trivial | exact zb_t' (by omega) | exact zb_f' (by omega) | omega) hP hD dX4_act_123
  by_cases sw_1_2 : ch = 102
  · refine lv_lookup (off := 76) (tgt := 77) hx hb dX4_act_1 (by decide) (by rw [toInt_iI ⟨by omega, by omega⟩, sw_1_2]; rfl) (by decide) ?_
    refine lv_aload_n hx hb dX4_act_77 rfl (lv_at hl 0 rfl) ?_
    refine lv_iconst (v := iI 0) hx hb dX4_act_78 (by decide) ?_
    refine z_callV0 (ci := 4) (qk := 0) (As := [.int (iI 0)]) (rest := []) hx hb hml hown hts hK hA hl.1 hP hD hS (c_X4_endIt l E q z pa sl sv sp pd od pm ty om st wr 0  (by first | omega | exact hz | exact hm | exact ⟨by omega, by omega⟩) (by first | omega | exact hz | exact hm | exact ⟨by omega, by omega⟩) (by first | omega | exact hz | exact hm | exact ⟨by omega, by omega⟩) (by first | omega | exact hz | exact hm | exact ⟨by omega, by omega⟩)) gX4_act_X4_endIt rfl ndX4_endIt ⟨Nat.le_of_ble_eq_true rfl, Nat.le_of_ble_eq_true rfl⟩ rfl rfl rfl rfl rfl (Nat.le_of_ble_eq_true rfl) dX4_act_79 ⟨Nat.le_of_ble_eq_true rfl, Nat.le_of_ble_eq_true rfl⟩ (fun x u H locs hpost hP hD hS => ?_)
    subst hpost
    have hP : va_P E.1 vwCl (wM E q (mEnd z 0) pa sl sv sp pd od pm ty om st wr) H := hP
    have hD : va_D A (wM E q (mEnd z 0) pa sl sv sp pd od pm ty om st wr) := hD
    refine lv_pop hx hb dX4_act_82 rfl ?_
    refine lv_goto (tgt := 123) hx hb dX4_act_83 (by decide) ?_
    have eqc_z : (mAct z ch g n d) = mEnd z 0 := by unfold mAct; (repeat (first | with_reducible rfl | rw [if_pos (by omega)] | rw [if_neg (by omega)]))
    have hP : va_P E.1 vwCl (wM E q (mAct z ch g n d) pa sl sv sp pd od pm ty om st wr) H := by rw [eqc_z]; exact hP
    have hD : va_D A (wM E q (mAct z ch g n d) pa sl sv sp pd od pm ty om st wr) := by rw [eqc_z]; exact hD
    exact z_vret hx hb hr hlocks hK hS () (by first | rfl | trivial | exact zb_t' (by omega) | exact zb_f' (by omega) | omega) hP hD dX4_act_123
  by_cases sw_1_3 : ch = 103
  · refine lv_lookup (off := 67) (tgt := 68) hx hb dX4_act_1 (by decide) (by rw [toInt_iI ⟨by omega, by omega⟩, sw_1_3]; rfl) (by decide) ?_
    refine lv_aload_n hx hb dX4_act_68 rfl (lv_at hl 0 rfl) ?_
    refine lv_iconst (v := iI 1) hx hb dX4_act_69 (by decide) ?_
    refine z_callV0 (ci := 4) (qk := 0) (As := [.int (iI 1)]) (rest := []) hx hb hml hown hts hK hA hl.1 hP hD hS (c_X4_endIt l E q z pa sl sv sp pd od pm ty om st wr 1  (by first | omega | exact hz | exact hm | exact ⟨by omega, by omega⟩) (by first | omega | exact hz | exact hm | exact ⟨by omega, by omega⟩) (by first | omega | exact hz | exact hm | exact ⟨by omega, by omega⟩) (by first | omega | exact hz | exact hm | exact ⟨by omega, by omega⟩)) gX4_act_X4_endIt rfl ndX4_endIt ⟨Nat.le_of_ble_eq_true rfl, Nat.le_of_ble_eq_true rfl⟩ rfl rfl rfl rfl rfl (Nat.le_of_ble_eq_true rfl) dX4_act_70 ⟨Nat.le_of_ble_eq_true rfl, Nat.le_of_ble_eq_true rfl⟩ (fun x u H locs hpost hP hD hS => ?_)
    subst hpost
    have hP : va_P E.1 vwCl (wM E q (mEnd z 1) pa sl sv sp pd od pm ty om st wr) H := hP
    have hD : va_D A (wM E q (mEnd z 1) pa sl sv sp pd od pm ty om st wr) := hD
    refine lv_pop hx hb dX4_act_73 rfl ?_
    refine lv_goto (tgt := 123) hx hb dX4_act_74 (by decide) ?_
    have eqc_z : (mAct z ch g n d) = mEnd z 1 := by unfold mAct; (repeat (first | with_reducible rfl | rw [if_pos (by omega)] | rw [if_neg (by omega)]))
    have hP : va_P E.1 vwCl (wM E q (mAct z ch g n d) pa sl sv sp pd od pm ty om st wr) H := by rw [eqc_z]; exact hP
    have hD : va_D A (wM E q (mAct z ch g n d) pa sl sv sp pd od pm ty om st wr) := by rw [eqc_z]; exact hD
    exact z_vret hx hb hr hlocks hK hS () (by first | rfl | trivial | exact zb_t' (by omega) | exact zb_f' (by omega) | omega) hP hD dX4_act_123
  by_cases sw_1_4 : ch = 106
  · refine lv_lookup (off := 59) (tgt := 60) hx hb dX4_act_1 (by decide) (by rw [toInt_iI ⟨by omega, by omega⟩, sw_1_4]; rfl) (by decide) ?_
    refine lv_aload_n hx hb dX4_act_60 rfl (lv_at hl 0 rfl) ?_
    refine z_callV0 (ci := 4) (qk := 0) (As := []) (rest := []) hx hb hml hown hts hK hA hl.1 hP hD hS (c_X4_beginIt l E q z pa sl sv sp pd od pm ty om st wr   (by first | omega | exact hz | exact hm | exact ⟨by omega, by omega⟩) (by first | omega | exact hz | exact hm | exact ⟨by omega, by omega⟩)) gX4_act_X4_beginIt rfl ndX4_beginIt ⟨Nat.le_of_ble_eq_true rfl, Nat.le_of_ble_eq_true rfl⟩ rfl rfl rfl rfl rfl (Nat.le_of_ble_eq_true rfl) dX4_act_61 ⟨Nat.le_of_ble_eq_true rfl, Nat.le_of_ble_eq_true rfl⟩ (fun x u H locs hpost hP hD hS => ?_)
    subst hpost
    have hP : va_P E.1 vwCl (wM E q (mBegin z) pa sl sv sp pd od pm ty om st wr) H := hP
    have hD : va_D A (wM E q (mBegin z) pa sl sv sp pd od pm ty om st wr) := hD
    refine lv_pop hx hb dX4_act_64 rfl ?_
    refine lv_goto (tgt := 123) hx hb dX4_act_65 (by decide) ?_
    have eqc_z : (mAct z ch g n d) = mBegin z := by unfold mAct; (repeat (first | with_reducible rfl | rw [if_pos (by omega)] | rw [if_neg (by omega)]))
    have hP : va_P E.1 vwCl (wM E q (mAct z ch g n d) pa sl sv sp pd od pm ty om st wr) H := by rw [eqc_z]; exact hP
    have hD : va_D A (wM E q (mAct z ch g n d) pa sl sv sp pd od pm ty om st wr) := by rw [eqc_z]; exact hD
    exact z_vret hx hb hr hlocks hK hS () (by first | rfl | trivial | exact zb_t' (by omega) | exact zb_f' (by omega) | omega) hP hD dX4_act_123
  by_cases sw_1_5 : ch = 119
  · refine lv_lookup (off := 93) (tgt := 94) hx hb dX4_act_1 (by decide) (by rw [toInt_iI ⟨by omega, by omega⟩, sw_1_5]; rfl) (by decide) ?_
    have hgi := hmi g (by omega) (by omega)
    refine lv_aload_n hx hb dX4_act_94 rfl (lv_at hl 0 rfl) ?_
    refine lv_iload_n hx hb dX4_act_95 rfl (lv_at hl 2 rfl) ?_
    refine lv_iload_n hx hb dX4_act_96 rfl (lv_at hl 3 rfl) ?_
    refine lv_iload hx hb dX4_act_97 (lv_at hl 4 rfl) ?_
    refine z_callV0 (ci := 4) (qk := 0) (As := [.int (iI g), .int (iI n), .int (iI d)]) (rest := []) hx hb hml hown hts hK hA hl.1 hP hD hS (c_X4_writeIt l E q z pa sl sv sp pd od pm ty om st wr g n d  (by first | omega | exact hz | exact hm | exact ⟨by omega, by omega⟩) (by first | omega | exact hz | exact hm | exact ⟨by omega, by omega⟩) (by first | omega | exact hz | exact hm | exact ⟨by omega, by omega⟩) (by first | omega | exact hz | exact hm | exact ⟨by omega, by omega⟩) (by first | omega | exact hz | exact hm | exact ⟨by omega, by omega⟩) (by first | omega | exact hz | exact hm | exact ⟨by omega, by omega⟩) (by first | omega | exact hz | exact hm | exact ⟨by omega, by omega⟩) (by first | omega | exact hz | exact hm | exact ⟨by omega, by omega⟩) (by first | omega | exact hz | exact hm | exact ⟨by omega, by omega⟩) (by first | omega | exact hz | exact hm | exact ⟨by omega, by omega⟩)) gX4_act_X4_writeIt rfl ndX4_writeIt ⟨Nat.le_of_ble_eq_true rfl, Nat.le_of_ble_eq_true rfl⟩ rfl rfl rfl rfl rfl (Nat.le_of_ble_eq_true rfl) dX4_act_99 ⟨Nat.le_of_ble_eq_true rfl, Nat.le_of_ble_eq_true rfl⟩ (fun x u H locs hpost hP hD hS => ?_)
    subst hpost
    have hP : va_P E.1 vwCl (wM E q (mWrite z g n d) pa sl sv sp pd od pm ty om st wr) H := hP
    have hD : va_D A (wM E q (mWrite z g n d) pa sl sv sp pd od pm ty om st wr) := hD
    refine lv_pop hx hb dX4_act_102 rfl ?_
    refine lv_goto (tgt := 123) hx hb dX4_act_103 (by decide) ?_
    have eqc_z : (mAct z ch g n d) = mWrite z g n d := by unfold mAct; (repeat (first | with_reducible rfl | rw [if_pos (by omega)] | rw [if_neg (by omega)]))
    have hP : va_P E.1 vwCl (wM E q (mAct z ch g n d) pa sl sv sp pd od pm ty om st wr) H := by rw [eqc_z]; exact hP
    have hD : va_D A (wM E q (mAct z ch g n d) pa sl sv sp pd od pm ty om st wr) := by rw [eqc_z]; exact hD
    exact z_vret hx hb hr hlocks hK hS () (by first | rfl | trivial | exact zb_t' (by omega) | exact zb_f' (by omega) | omega) hP hD dX4_act_123
  refine lv_lookup (off := 115) (tgt := 116) hx hb dX4_act_1 (by decide) (by rw [toInt_iI ⟨by omega, by omega⟩]; show (if (97 : Int) = ch then (85 : Int) else if (100 : Int) = ch then (105 : Int) else if (102 : Int) = ch then (76 : Int) else if (103 : Int) = ch then (67 : Int) else if (106 : Int) = ch then (59 : Int) else if (119 : Int) = ch then (93 : Int) else (115 : Int)) = (115 : Int); rw [if_neg (by omega), if_neg (by omega), if_neg (by omega), if_neg (by omega), if_neg (by omega), if_neg (by omega)]) (by decide) ?_
  have hgi := hmi g (by omega) (by omega)
  refine lv_aload_n hx hb dX4_act_116 rfl (lv_at hl 0 rfl) ?_
  refine lv_iload_n hx hb dX4_act_117 rfl (lv_at hl 2 rfl) ?_
  refine lv_iload_n hx hb dX4_act_118 rfl (lv_at hl 3 rfl) ?_
  refine z_callV0 (ci := 4) (qk := 0) (As := [.int (iI g), .int (iI n)]) (rest := []) hx hb hml hown hts hK hA hl.1 hP hD hS (c_X4_readIt l E q z pa sl sv sp pd od pm ty om st wr g n  (by first | omega | exact hz | exact hm | exact ⟨by omega, by omega⟩) (by first | omega | exact hz | exact hm | exact ⟨by omega, by omega⟩) (by first | omega | exact hz | exact hm | exact ⟨by omega, by omega⟩) (by first | omega | exact hz | exact hm | exact ⟨by omega, by omega⟩) (by first | omega | exact hz | exact hm | exact ⟨by omega, by omega⟩)) gX4_act_X4_readIt rfl ndX4_readIt ⟨Nat.le_of_ble_eq_true rfl, Nat.le_of_ble_eq_true rfl⟩ rfl rfl rfl rfl rfl (Nat.le_of_ble_eq_true rfl) dX4_act_119 ⟨Nat.le_of_ble_eq_true rfl, Nat.le_of_ble_eq_true rfl⟩ (fun x u H locs hpost hP hD hS => ?_)
  subst hpost
  have hP : va_P E.1 vwCl (wM E q (mRead z g n) pa sl sv sp pd od pm ty om st wr) H := hP
  have hD : va_D A (wM E q (mRead z g n) pa sl sv sp pd od pm ty om st wr) := hD
  refine lv_pop hx hb dX4_act_122 rfl ?_
  have eqc_z : (mAct z ch g n d) = mRead z g n := by unfold mAct; (repeat (first | with_reducible rfl | rw [if_pos (by omega)] | rw [if_neg (by omega)]))
  have hP : va_P E.1 vwCl (wM E q (mAct z ch g n d) pa sl sv sp pd od pm ty om st wr) H := by rw [eqc_z]; exact hP
  have hD : va_D A (wM E q (mAct z ch g n d) pa sl sv sp pd od pm ty om st wr) := by rw [eqc_z]; exact hD
  exact z_vret hx hb hr hlocks hK hS () (by first | rfl | trivial | exact zb_t' (by omega) | exact zb_f' (by omega) | omega) hP hD dX4_act_123

theorem ndX4_carryOut : yX4_carryOut.cls = RX4 ∧ yX4_carryOut.cls ≠ "java/lang/invoke/MethodHandle" ∧ yX4_carryOut.cls ≠ "java/lang/invoke/VarHandle" ∧ (parseMethodDescriptor yX4_carryOut.desc).map (fun d => d.parameters.length) = some 0 := by decide +kernel
set_option maxRecDepth 100000 in
set_option maxHeartbeats 1000000 in
theorem c_X4_carryOut (l : Launch) (E : zE) (q : Nat → Nat) (z pa sl sv sp pd od : Int → Int) (pm ty om st wr : Int) (h0 : PD pd ty) (h1 : 0 ≤ ty ∧ ty ≤ 80) (h2 : 0 ≤ pm ∧ pm ≤ 6) (h3 : MI z) (h4 : z 6 < 1000000000) : zF l E yX4_carryOut wsX4_carryOut 8 181 [.ref (q 0)] (wM E q z pa sl sv sp pd od pm ty om st wr) (if (rp pd ty od).1 = -6 then (coR z (rp pd ty od).2.2.2 (rp pd ty od).2.2.1).2 else -3) (wM E q (if (rp pd ty od).1 = -6 then (coR z (rp pd ty od).2.2.2 (rp pd ty od).2.2.1).1 else z) (if (rp pd ty od).1 = -6 then recP z pa pm else pa) sl sv sp pd ((rp pd ty od).2.2.2) (if (rp pd ty od).1 = -6 then recM pm else pm) (if (rp pd ty od).1 = -6 then 0 else ty) ((rp pd ty od).2.2.1) ((rp pd ty od).2.1) ((rp pd ty od).1)) := by
  have hpd := h0
  have hmi0 : MIb (z 6 + 0) z := ⟨h3.1, h3.2.1, h3.2.2.1, h3.2.2.2.1, h3.2.2.2.2.1, by omega⟩
  have hrr := rp_rg (pd := pd) (ty := ty) (od := od) h1.2
  refine zC_of (cc := cX4_carryOut) (maxL := 2) (by decide) rfl (Nat.le_of_ble_eq_true rfl) ?_
  intro p e s m below meth c ls A hx hb hr hts hown hlocks hml hK hA hS hP hD hl
  have hown : s.vm.findClass RX4 = some m.cls := hown
  have hl : lv_has ls 2 [(0, .ref (q 0))] := hl
  have hinX4 : ∀ v ∈ u_ws RX4 TX4 12, v ∈ wsX4_carryOut := by decide +kernel
  have hf_181 := hts (.fieldLink RX4 181 "GenerationNamesModel" "orderMany" "I") (by decide +kernel)
  have hf_151 := hts (.fieldLink RX4 151 "GenerationNamesModel" "typed" "I") (by decide +kernel)
  have hf_30 := hts (.fieldLink RX4 30 "GenerationNamesModel" "orders" "[I") (by decide +kernel)
  refine lv_aload_n hx hb dX4_carryOut_0 rfl (lv_at hl 0 rfl) ?_
  refine z_callV0 (ci := 4) (qk := 0) (As := []) (rest := []) hx hb hml hown hts hK hA hl.1 hP hD hS (c_X4_readPad l E q z pa sl sv sp pd od pm ty om st wr   (by first | omega | exact h0 | exact hc | exact hmi | exact hoo | (intro hh; unfold ordOk at hoo; omega)) (by first | omega | exact h0 | exact hc | exact hmi | exact hoo | (intro hh; unfold ordOk at hoo; omega))) gX4_carryOut_X4_readPad rfl ndX4_readPad ⟨Nat.le_of_ble_eq_true rfl, Nat.le_of_ble_eq_true rfl⟩ rfl rfl rfl rfl rfl (Nat.le_of_ble_eq_true rfl) dX4_carryOut_1 ⟨Nat.le_of_ble_eq_true rfl, Nat.le_of_ble_eq_true rfl⟩ (fun x u H locs hpost hP hD hS => ?_)
  subst hpost
  have hP : va_P E.1 vwCl (wM E q z pa sl sv sp pd ((rp pd ty od).2.2.2) pm ty ((rp pd ty od).2.2.1) ((rp pd ty od).2.1) ((rp pd ty od).1)) H := hP
  have hD : va_D A (wM E q z pa sl sv sp pd ((rp pd ty od).2.2.2) pm ty ((rp pd ty od).2.2.1) ((rp pd ty od).2.1) ((rp pd ty od).1)) := hD
  refine lv_bipush (v := iI (-6)) hx hb dX4_carryOut_4 (by decide) ?_
  refine z_icmp_eq (tgt := 12) hx hb dX4_carryOut_6 (by decide) ⟨by omega, by omega⟩ ⟨by omega, by omega⟩ (fun c_6 => ?_) (fun c_6 => ?_)
  · refine lv_aload_n hx hb dX4_carryOut_12 rfl (lv_at hl 0 rfl) ?_
    refine z_callVv0 (ci := 4) (qk := 0) (As := []) (rest := []) hx hb hml hown hts hK hA hl.1 hP hD hS (c_X4_record l E q z pa sl sv sp pd ((rp pd ty od).2.2.2) pm ty ((rp pd ty od).2.2.1) ((rp pd ty od).2.1) ((rp pd ty od).1)   (by first | omega | exact h0 | exact hc | exact hmi | exact hoo | (intro hh; unfold ordOk at hoo; omega))) gX4_carryOut_X4_record rfl ndX4_record ⟨Nat.le_of_ble_eq_true rfl, Nat.le_of_ble_eq_true rfl⟩ rfl rfl rfl rfl rfl (Nat.le_of_ble_eq_true rfl) dX4_carryOut_13 ⟨Nat.le_of_ble_eq_true rfl, Nat.le_of_ble_eq_true rfl⟩ (fun u H locs hpost hP hD hS => ?_)
    have hP : va_P E.1 vwCl (wM E q z (recP z pa pm) sl sv sp pd ((rp pd ty od).2.2.2) (recM pm) ty ((rp pd ty od).2.2.1) ((rp pd ty od).2.1) ((rp pd ty od).1)) H := hP
    have hD : va_D A (wM E q z (recP z pa pm) sl sv sp pd ((rp pd ty od).2.2.2) (recM pm) ty ((rp pd ty od).2.2.1) ((rp pd ty od).2.1) ((rp pd ty od).1)) := hD
    obtain ⟨ha, ho0, ho1⟩ := rp_ok h1.2 od c_6
    refine lv_iconst (v := iI 0) hx hb dX4_carryOut_16 (by decide) ?_
    refine lv_istore_n (lv' := [(1, .int (iI 0)), (0, .ref (q 0))]) hx hb dX4_carryOut_17 rfl hl (by decide) rfl (fun ls hl => ?_)
    have hloop18 : ∀ (n : Nat) (z1 : Int → Int) (n1 : Int) (hmu : (rp pd ty od).2.2.1 - n1 = (n : Int)) (hi18_0 : ∃ k : Nat, (rp pd ty od).2.2.1 - n1 ≤ k ∧ coN (rp pd ty od).2.2.2 (rp pd ty od).2.2.1 k z1 n1 = coR z (rp pd ty od).2.2.2 (rp pd ty od).2.2.1) (hi18_1 : 0 ≤ n1 ∧ n1 ≤ (rp pd ty od).2.2.1) (hi18_2 : MIb (z 6 + n1) z1) (H : Heap) (locs : List Loc) (ls : Array Slot), va_P E.1 vwCl (wM E q z1 (recP z pa pm) sl sv sp pd ((rp pd ty od).2.2.2) (recM pm) ty ((rp pd ty od).2.2.1) ((rp pd ty od).2.1) ((rp pd ty od).1)) H → va_D A (wM E q z1 (recP z pa pm) sl sv sp pd ((rp pd ty od).2.2.2) (recM pm) ty ((rp pd ty od).2.2.1) ((rp pd ty od).2.1) ((rp pd ty od).1)) → va_S A s.heap H locs → lv_has ls 2 [(1, .int (iI n1)), (0, .ref (q 0))] → W p l e (zR 8 181) s m ([.ref (q 0)] : List Value).toArray below meth c H locs 0 0 (MQ below (zQ E A (S := Unit) (fun x _ => x = (if (rp pd ty od).1 = -6 then (coR z (rp pd ty od).2.2.2 (rp pd ty od).2.2.1).2 else -3)) (fun _ => wM E q (if (rp pd ty od).1 = -6 then (coR z (rp pd ty od).2.2.2 (rp pd ty od).2.2.1).1 else z) (if (rp pd ty od).1 = -6 then recP z pa pm else pa) sl sv sp pd ((rp pd ty od).2.2.2) (if (rp pd ty od).1 = -6 then recM pm else pm) (if (rp pd ty od).1 = -6 then 0 else ty) ((rp pd ty od).2.2.1) ((rp pd ty od).2.1) ((rp pd ty od).1))) ([.ref (q 0)] : List Value).toArray s 0 0 A) (F0 m 18 ls []) := by
      intro n
      induction n using Nat.strongRecOn with
      | ind n ih18 =>
        intro z1 n1 hmu18 hi18_0 hi18_1 hi18_2 H locs ls hP hD hS hl
        have hmi : MI z1 := hi18_2.mi (by omega)
        obtain ⟨k, hk1, hk2⟩ := hi18_0
        refine lv_iload_n hx hb dX4_carryOut_18 rfl (lv_at hl 0 rfl) ?_
        refine lv_aload_n hx hb dX4_carryOut_19 rfl (lv_at hl 1 rfl) ?_
        refine va_get (D := E.1) (cl := vwCl) (ci := 4) (v := .int (iI ((rp pd ty od).2.2.1))) (C := RX4) (T := TX4) (N := 12) hx hb hts hinX4 hown hK hP 0 rfl rfl 9 (by decide) hf_181 (fun _ h => h) rfl dX4_carryOut_20 ?_
        refine z_icmp_ge (tgt := 109) hx hb dX4_carryOut_23 (by decide) ⟨by omega, by omega⟩ ⟨by omega, by omega⟩ (fun c_23 => ?_) (fun c_23 => ?_)
        · have hfin : coR z (rp pd ty od).2.2.2 (rp pd ty od).2.2.1 = (z1, n1) := by rw [← hk2]; exact coN_stop (by first | (intro q; omega) | exact (fun q => c_58 q.2)) k
          refine lv_aload_n hx hb dX4_carryOut_109 rfl (lv_at hl 1 rfl) ?_
          refine lv_iconst (v := iI 0) hx hb dX4_carryOut_110 (by decide) ?_
          refine va_put (D := E.1) (cl := vwCl) (ci := 4) (v := .int (iI 0)) (ty := .int) (C := RX4) (T := TX4) (N := 12) hx hb hts hinX4 tyX4 tyX4_ok nmX4 hown hK hP hD hS 0 rfl rfl 7 (by decide) hf_151 (fun _ h => h) rfl (by decide +kernel) (rfl) (rfl) (Nat.le_of_ble_eq_true rfl) dX4_carryOut_111 (fun H locs hP hD hS => ?_)
          have hP : va_P E.1 vwCl (wM E q z1 (recP z pa pm) sl sv sp pd ((rp pd ty od).2.2.2) (recM pm) 0 ((rp pd ty od).2.2.1) ((rp pd ty od).2.1) ((rp pd ty od).1)) H := hP
          have hD : va_D A (wM E q z1 (recP z pa pm) sl sv sp pd ((rp pd ty od).2.2.2) (recM pm) 0 ((rp pd ty od).2.2.1) ((rp pd ty od).2.1) ((rp pd ty od).1)) := hD
          refine lv_iload_n hx hb dX4_carryOut_114 rfl (lv_at hl 0 rfl) ?_
          have eqc_z : (if (rp pd ty od).1 = -6 then (coR z (rp pd ty od).2.2.2 (rp pd ty od).2.2.1).1 else z) = z1 := by first | rw [if_neg c_6] | (rw [if_pos c_6, hfin])
          have eqc_pa : (if (rp pd ty od).1 = -6 then recP z pa pm else pa) = recP z pa pm := by first | rw [if_pos c_6] | rw [if_neg c_6]
          have eqc_pm : (if (rp pd ty od).1 = -6 then recM pm else pm) = recM pm := by first | rw [if_pos c_6] | rw [if_neg c_6]
          have eqc_ty : (if (rp pd ty od).1 = -6 then 0 else ty) = 0 := by first | rw [if_pos c_6] | rw [if_neg c_6]
          have hP : va_P E.1 vwCl (wM E q (if (rp pd ty od).1 = -6 then (coR z (rp pd ty od).2.2.2 (rp pd ty od).2.2.1).1 else z) (if (rp pd ty od).1 = -6 then recP z pa pm else pa) sl sv sp pd ((rp pd ty od).2.2.2) (if (rp pd ty od).1 = -6 then recM pm else pm) (if (rp pd ty od).1 = -6 then 0 else ty) ((rp pd ty od).2.2.1) ((rp pd ty od).2.1) ((rp pd ty od).1)) H := by rw [eqc_z, eqc_pa, eqc_pm, eqc_ty]; exact hP
          have hD : va_D A (wM E q (if (rp pd ty od).1 = -6 then (coR z (rp pd ty od).2.2.2 (rp pd ty od).2.2.1).1 else z) (if (rp pd ty od).1 = -6 then recP z pa pm else pa) sl sv sp pd ((rp pd ty od).2.2.2) (if (rp pd ty od).1 = -6 then recM pm else pm) (if (rp pd ty od).1 = -6 then 0 else ty) ((rp pd ty od).2.2.1) ((rp pd ty od).2.1) ((rp pd ty od).1)) := by rw [eqc_z, eqc_pa, eqc_pm, eqc_ty]; exact hD
          exact z_iret hx hb hr hlocks hK hS () (by first | rw [if_neg c_6] | (rw [if_pos c_6, hfin])) hP hD dX4_carryOut_115
        · have hoo := ha n1 (by omega) (by omega)
          have hcr : rg ((rp pd ty od).2.2.2 (4 * n1)) := by unfold ordOk at hoo; omega
          refine lv_aload_n hx hb dX4_carryOut_26 rfl (lv_at hl 1 rfl) ?_
          refine lv_aload_n hx hb dX4_carryOut_27 rfl (lv_at hl 1 rfl) ?_
          refine va_get (D := E.1) (cl := vwCl) (ci := 4) (v := .ref (q 7)) (C := RX4) (T := TX4) (N := 12) hx hb hts hinX4 hown hK hP 0 rfl rfl 8 (by decide) hf_30 (fun _ h => h) rfl dX4_carryOut_28 ?_
          refine lv_iconst (v := iI 4) hx hb dX4_carryOut_31 (by decide) ?_
          refine lv_iload_n hx hb dX4_carryOut_32 rfl (lv_at hl 0 rfl) ?_
          refine z_imul hx hb dX4_carryOut_33 ?_
          refine z_iald (D := E.1) (cl := vwCl) (tys := zT E) (f := (rp pd ty od).2.2.2) hx hb hK hP 7 0 rfl rfl (by omega) (by omega) (by omega) dX4_carryOut_34 ?_
          refine lv_aload_n hx hb dX4_carryOut_35 rfl (lv_at hl 1 rfl) ?_
          refine va_get (D := E.1) (cl := vwCl) (ci := 4) (v := .ref (q 7)) (C := RX4) (T := TX4) (N := 12) hx hb hts hinX4 hown hK hP 0 rfl rfl 8 (by decide) hf_30 (fun _ h => h) rfl dX4_carryOut_36 ?_
          refine lv_iconst (v := iI 4) hx hb dX4_carryOut_39 (by decide) ?_
          refine lv_iload_n hx hb dX4_carryOut_40 rfl (lv_at hl 0 rfl) ?_
          refine z_imul hx hb dX4_carryOut_41 ?_
          refine lv_iconst (v := iI 1) hx hb dX4_carryOut_42 (by decide) ?_
          refine z_iadd hx hb dX4_carryOut_43 ?_
          refine z_iald (D := E.1) (cl := vwCl) (tys := zT E) (f := (rp pd ty od).2.2.2) hx hb hK hP 7 0 rfl rfl (by omega) (by omega) (by omega) dX4_carryOut_44 ?_
          refine lv_aload_n hx hb dX4_carryOut_45 rfl (lv_at hl 1 rfl) ?_
          refine va_get (D := E.1) (cl := vwCl) (ci := 4) (v := .ref (q 7)) (C := RX4) (T := TX4) (N := 12) hx hb hts hinX4 hown hK hP 0 rfl rfl 8 (by decide) hf_30 (fun _ h => h) rfl dX4_carryOut_46 ?_
          refine lv_iconst (v := iI 4) hx hb dX4_carryOut_49 (by decide) ?_
          refine lv_iload_n hx hb dX4_carryOut_50 rfl (lv_at hl 0 rfl) ?_
          refine z_imul hx hb dX4_carryOut_51 ?_
          refine lv_iconst (v := iI 2) hx hb dX4_carryOut_52 (by decide) ?_
          refine z_iadd hx hb dX4_carryOut_53 ?_
          refine z_iald (D := E.1) (cl := vwCl) (tys := zT E) (f := (rp pd ty od).2.2.2) hx hb hK hP 7 0 rfl rfl (by omega) (by omega) (by omega) dX4_carryOut_54 ?_
          refine z_callV0 (ci := 4) (qk := 0) (As := [.int (iI (((rp pd ty od).2.2.2) (4 * n1))), .int (iI (((rp pd ty od).2.2.2) ((4 * n1) + 1))), .int (iI (((rp pd ty od).2.2.2) ((4 * n1) + 2)))]) (rest := []) hx hb hml hown hts hK hA hl.1 hP hD hS (c_X4_can l E q z1 (recP z pa pm) sl sv sp pd ((rp pd ty od).2.2.2) (recM pm) ty ((rp pd ty od).2.2.1) ((rp pd ty od).2.1) ((rp pd ty od).1) (((rp pd ty od).2.2.2) (4 * n1)) (((rp pd ty od).2.2.2) ((4 * n1) + 1)) (((rp pd ty od).2.2.2) ((4 * n1) + 2))  (by first | omega | exact h0 | exact hc | exact hmi | exact hoo | (intro hh; unfold ordOk at hoo; omega)) (by first | omega | exact h0 | exact hc | exact hmi | exact hoo | (intro hh; unfold ordOk at hoo; omega)) (by first | omega | exact h0 | exact hc | exact hmi | exact hoo | (intro hh; unfold ordOk at hoo; omega))) gX4_carryOut_X4_can rfl ndX4_can ⟨Nat.le_of_ble_eq_true rfl, Nat.le_of_ble_eq_true rfl⟩ rfl rfl rfl rfl rfl (Nat.le_of_ble_eq_true rfl) dX4_carryOut_55 ⟨Nat.le_of_ble_eq_true rfl, Nat.le_of_ble_eq_true rfl⟩ (fun x u H locs hpost hP hD hS => ?_)
          subst hpost
          have hP : va_P E.1 vwCl (wM E q z1 (recP z pa pm) sl sv sp pd ((rp pd ty od).2.2.2) (recM pm) ty ((rp pd ty od).2.2.1) ((rp pd ty od).2.1) ((rp pd ty od).1)) H := hP
          have hD : va_D A (wM E q z1 (recP z pa pm) sl sv sp pd ((rp pd ty od).2.2.2) (recM pm) ty ((rp pd ty od).2.2.1) ((rp pd ty od).2.1) ((rp pd ty od).1)) := hD
          refine z_ifb_eq (tgt := 109) hx hb dX4_carryOut_58 (by decide) (fun c_58 => ?_) (fun c_58 => ?_)
          · have hfin : coR z (rp pd ty od).2.2.2 (rp pd ty od).2.2.1 = (z1, n1) := by rw [← hk2]; exact coN_stop (by first | (intro q; omega) | exact (fun q => c_58 q.2)) k
            refine lv_aload_n hx hb dX4_carryOut_109 rfl (lv_at hl 1 rfl) ?_
            refine lv_iconst (v := iI 0) hx hb dX4_carryOut_110 (by decide) ?_
            refine va_put (D := E.1) (cl := vwCl) (ci := 4) (v := .int (iI 0)) (ty := .int) (C := RX4) (T := TX4) (N := 12) hx hb hts hinX4 tyX4 tyX4_ok nmX4 hown hK hP hD hS 0 rfl rfl 7 (by decide) hf_151 (fun _ h => h) rfl (by decide +kernel) (rfl) (rfl) (Nat.le_of_ble_eq_true rfl) dX4_carryOut_111 (fun H locs hP hD hS => ?_)
            have hP : va_P E.1 vwCl (wM E q z1 (recP z pa pm) sl sv sp pd ((rp pd ty od).2.2.2) (recM pm) 0 ((rp pd ty od).2.2.1) ((rp pd ty od).2.1) ((rp pd ty od).1)) H := hP
            have hD : va_D A (wM E q z1 (recP z pa pm) sl sv sp pd ((rp pd ty od).2.2.2) (recM pm) 0 ((rp pd ty od).2.2.1) ((rp pd ty od).2.1) ((rp pd ty od).1)) := hD
            refine lv_iload_n hx hb dX4_carryOut_114 rfl (lv_at hl 0 rfl) ?_
            have eqc_z : (if (rp pd ty od).1 = -6 then (coR z (rp pd ty od).2.2.2 (rp pd ty od).2.2.1).1 else z) = z1 := by first | rw [if_neg c_6] | (rw [if_pos c_6, hfin])
            have eqc_pa : (if (rp pd ty od).1 = -6 then recP z pa pm else pa) = recP z pa pm := by first | rw [if_pos c_6] | rw [if_neg c_6]
            have eqc_pm : (if (rp pd ty od).1 = -6 then recM pm else pm) = recM pm := by first | rw [if_pos c_6] | rw [if_neg c_6]
            have eqc_ty : (if (rp pd ty od).1 = -6 then 0 else ty) = 0 := by first | rw [if_pos c_6] | rw [if_neg c_6]
            have hP : va_P E.1 vwCl (wM E q (if (rp pd ty od).1 = -6 then (coR z (rp pd ty od).2.2.2 (rp pd ty od).2.2.1).1 else z) (if (rp pd ty od).1 = -6 then recP z pa pm else pa) sl sv sp pd ((rp pd ty od).2.2.2) (if (rp pd ty od).1 = -6 then recM pm else pm) (if (rp pd ty od).1 = -6 then 0 else ty) ((rp pd ty od).2.2.1) ((rp pd ty od).2.1) ((rp pd ty od).1)) H := by rw [eqc_z, eqc_pa, eqc_pm, eqc_ty]; exact hP
            have hD : va_D A (wM E q (if (rp pd ty od).1 = -6 then (coR z (rp pd ty od).2.2.2 (rp pd ty od).2.2.1).1 else z) (if (rp pd ty od).1 = -6 then recP z pa pm else pa) sl sv sp pd ((rp pd ty od).2.2.2) (if (rp pd ty od).1 = -6 then recM pm else pm) (if (rp pd ty od).1 = -6 then 0 else ty) ((rp pd ty od).2.2.1) ((rp pd ty od).2.1) ((rp pd ty od).1)) := by rw [eqc_z, eqc_pa, eqc_pm, eqc_ty]; exact hD
            exact z_iret hx hb hr hlocks hK hS () (by first | rw [if_neg c_6] | (rw [if_pos c_6, hfin])) hP hD dX4_carryOut_115
          · have hc : canP z1 ((rp pd ty od).2.2.2 (4 * n1)) ((rp pd ty od).2.2.2 (4 * n1 + 1)) ((rp pd ty od).2.2.2 (4 * n1 + 2)) := c_58
            refine lv_aload_n hx hb dX4_carryOut_61 rfl (lv_at hl 1 rfl) ?_
            refine lv_aload_n hx hb dX4_carryOut_62 rfl (lv_at hl 1 rfl) ?_
            refine va_get (D := E.1) (cl := vwCl) (ci := 4) (v := .ref (q 7)) (C := RX4) (T := TX4) (N := 12) hx hb hts hinX4 hown hK hP 0 rfl rfl 8 (by decide) hf_30 (fun _ h => h) rfl dX4_carryOut_63 ?_
            refine lv_iconst (v := iI 4) hx hb dX4_carryOut_66 (by decide) ?_
            refine lv_iload_n hx hb dX4_carryOut_67 rfl (lv_at hl 0 rfl) ?_
            refine z_imul hx hb dX4_carryOut_68 ?_
            refine z_iald (D := E.1) (cl := vwCl) (tys := zT E) (f := (rp pd ty od).2.2.2) hx hb hK hP 7 0 rfl rfl (by omega) (by omega) (by omega) dX4_carryOut_69 ?_
            refine lv_aload_n hx hb dX4_carryOut_70 rfl (lv_at hl 1 rfl) ?_
            refine va_get (D := E.1) (cl := vwCl) (ci := 4) (v := .ref (q 7)) (C := RX4) (T := TX4) (N := 12) hx hb hts hinX4 hown hK hP 0 rfl rfl 8 (by decide) hf_30 (fun _ h => h) rfl dX4_carryOut_71 ?_
            refine lv_iconst (v := iI 4) hx hb dX4_carryOut_74 (by decide) ?_
            refine lv_iload_n hx hb dX4_carryOut_75 rfl (lv_at hl 0 rfl) ?_
            refine z_imul hx hb dX4_carryOut_76 ?_
            refine lv_iconst (v := iI 1) hx hb dX4_carryOut_77 (by decide) ?_
            refine z_iadd hx hb dX4_carryOut_78 ?_
            refine z_iald (D := E.1) (cl := vwCl) (tys := zT E) (f := (rp pd ty od).2.2.2) hx hb hK hP 7 0 rfl rfl (by omega) (by omega) (by omega) dX4_carryOut_79 ?_
            refine lv_aload_n hx hb dX4_carryOut_80 rfl (lv_at hl 1 rfl) ?_
            refine va_get (D := E.1) (cl := vwCl) (ci := 4) (v := .ref (q 7)) (C := RX4) (T := TX4) (N := 12) hx hb hts hinX4 hown hK hP 0 rfl rfl 8 (by decide) hf_30 (fun _ h => h) rfl dX4_carryOut_81 ?_
            refine lv_iconst (v := iI 4) hx hb dX4_carryOut_84 (by decide) ?_
            refine lv_iload_n hx hb dX4_carryOut_85 rfl (lv_at hl 0 rfl) ?_
            refine z_imul hx hb dX4_carryOut_86 ?_
            refine lv_iconst (v := iI 2) hx hb dX4_carryOut_87 (by decide) ?_
            refine z_iadd hx hb dX4_carryOut_88 ?_
            refine z_iald (D := E.1) (cl := vwCl) (tys := zT E) (f := (rp pd ty od).2.2.2) hx hb hK hP 7 0 rfl rfl (by omega) (by omega) (by omega) dX4_carryOut_89 ?_
            refine lv_aload_n hx hb dX4_carryOut_90 rfl (lv_at hl 1 rfl) ?_
            refine va_get (D := E.1) (cl := vwCl) (ci := 4) (v := .ref (q 7)) (C := RX4) (T := TX4) (N := 12) hx hb hts hinX4 hown hK hP 0 rfl rfl 8 (by decide) hf_30 (fun _ h => h) rfl dX4_carryOut_91 ?_
            refine lv_iconst (v := iI 4) hx hb dX4_carryOut_94 (by decide) ?_
            refine lv_iload_n hx hb dX4_carryOut_95 rfl (lv_at hl 0 rfl) ?_
            refine z_imul hx hb dX4_carryOut_96 ?_
            refine lv_iconst (v := iI 3) hx hb dX4_carryOut_97 (by decide) ?_
            refine z_iadd hx hb dX4_carryOut_98 ?_
            refine z_iald (D := E.1) (cl := vwCl) (tys := zT E) (f := (rp pd ty od).2.2.2) hx hb hK hP 7 0 rfl rfl (by omega) (by omega) (by omega) dX4_carryOut_99 ?_
            refine z_callVv0 (ci := 4) (qk := 0) (As := [.int (iI (((rp pd ty od).2.2.2) (4 * n1))), .int (iI (((rp pd ty od).2.2.2) ((4 * n1) + 1))), .int (iI (((rp pd ty od).2.2.2) ((4 * n1) + 2))), .int (iI (((rp pd ty od).2.2.2) ((4 * n1) + 3)))]) (rest := []) hx hb hml hown hts hK hA hl.1 hP hD hS (c_X4_act l E q z1 (recP z pa pm) sl sv sp pd ((rp pd ty od).2.2.2) (recM pm) ty ((rp pd ty od).2.2.1) ((rp pd ty od).2.1) ((rp pd ty od).1) (((rp pd ty od).2.2.2) (4 * n1)) (((rp pd ty od).2.2.2) ((4 * n1) + 1)) (((rp pd ty od).2.2.2) ((4 * n1) + 2)) (((rp pd ty od).2.2.2) ((4 * n1) + 3))  (by first | omega | exact h0 | exact hc | exact hmi | exact hoo | (intro hh; unfold ordOk at hoo; omega)) (by first | omega | exact h0 | exact hc | exact hmi | exact hoo | (intro hh; unfold ordOk at hoo; omega)) (by first | omega | exact h0 | exact hc | exact hmi | exact hoo | (intro hh; unfold ordOk at hoo; omega)) (by first | omega | exact h0 | exact hc | exact hmi | exact hoo | (intro hh; unfold ordOk at hoo; omega))) gX4_carryOut_X4_act rfl ndX4_act ⟨Nat.le_of_ble_eq_true rfl, Nat.le_of_ble_eq_true rfl⟩ rfl rfl rfl rfl rfl (Nat.le_of_ble_eq_true rfl) dX4_carryOut_100 ⟨Nat.le_of_ble_eq_true rfl, Nat.le_of_ble_eq_true rfl⟩ (fun u H locs hpost hP hD hS => ?_)
            have hP : va_P E.1 vwCl (wM E q (mAct z1 (((rp pd ty od).2.2.2) (4 * n1)) (((rp pd ty od).2.2.2) ((4 * n1) + 1)) (((rp pd ty od).2.2.2) ((4 * n1) + 2)) (((rp pd ty od).2.2.2) ((4 * n1) + 3))) (recP z pa pm) sl sv sp pd ((rp pd ty od).2.2.2) (recM pm) ty ((rp pd ty od).2.2.1) ((rp pd ty od).2.1) ((rp pd ty od).1)) H := hP
            have hD : va_D A (wM E q (mAct z1 (((rp pd ty od).2.2.2) (4 * n1)) (((rp pd ty od).2.2.2) ((4 * n1) + 1)) (((rp pd ty od).2.2.2) ((4 * n1) + 2)) (((rp pd ty od).2.2.2) ((4 * n1) + 3))) (recP z pa pm) sl sv sp pd ((rp pd ty od).2.2.2) (recM pm) ty ((rp pd ty od).2.2.1) ((rp pd ty od).2.1) ((rp pd ty od).1)) := hD
            refine lv_iinc (v := iI (n1 + 1)) (lv' := [(1, .int (iI (n1 + 1))), (0, .ref (q 0))]) hx hb dX4_carryOut_103 hl (k := 0) rfl (iI_add _ _) (by decide) rfl (fun ls hl => ?_)
            refine lv_goto (tgt := 18) hx hb dX4_carryOut_106 (by decide) ?_
            obtain ⟨k, rfl⟩ : ∃ j : Nat, k = j + 1 := ⟨k - 1, by omega⟩
            exact ih18 ((rp pd ty od).2.2.1 - (n1 + 1) : Int).toNat (by omega) (mAct z1 (((rp pd ty od).2.2.2) (4 * n1)) (((rp pd ty od).2.2.2) ((4 * n1) + 1)) (((rp pd ty od).2.2.2) ((4 * n1) + 2)) (((rp pd ty od).2.2.2) ((4 * n1) + 3))) (n1 + 1) (by omega) (⟨k, by omega, by rw [← hk2, coN_step ⟨by omega, hc⟩ k]⟩) (by omega) ((MIb_mAct hi18_2 (by omega) hoo hc).le (by omega)) _ _ ls hP hD hS (lv_sub hl [0, 1] rfl)
    exact hloop18 ((rp pd ty od).2.2.1 - 0 : Int).toNat z 0 (by omega) (⟨(rp pd ty od).2.2.1.toNat, by omega, rfl⟩) (by omega) (hmi0) _ _ ls hP hD hS (lv_sub hl [0, 1] rfl)
  · refine lv_bipush (v := iI (-3)) hx hb dX4_carryOut_9 (by decide) ?_
    have eqc_z : (if (rp pd ty od).1 = -6 then (coR z (rp pd ty od).2.2.2 (rp pd ty od).2.2.1).1 else z) = z := by first | rw [if_neg c_6] | (rw [if_pos c_6, hfin])
    have eqc_pa : (if (rp pd ty od).1 = -6 then recP z pa pm else pa) = pa := by first | rw [if_pos c_6] | rw [if_neg c_6]
    have eqc_pm : (if (rp pd ty od).1 = -6 then recM pm else pm) = pm := by first | rw [if_pos c_6] | rw [if_neg c_6]
    have eqc_ty : (if (rp pd ty od).1 = -6 then 0 else ty) = ty := by first | rw [if_pos c_6] | rw [if_neg c_6]
    have hP : va_P E.1 vwCl (wM E q (if (rp pd ty od).1 = -6 then (coR z (rp pd ty od).2.2.2 (rp pd ty od).2.2.1).1 else z) (if (rp pd ty od).1 = -6 then recP z pa pm else pa) sl sv sp pd ((rp pd ty od).2.2.2) (if (rp pd ty od).1 = -6 then recM pm else pm) (if (rp pd ty od).1 = -6 then 0 else ty) ((rp pd ty od).2.2.1) ((rp pd ty od).2.1) ((rp pd ty od).1)) H := by rw [eqc_z, eqc_pa, eqc_pm, eqc_ty]; exact hP
    have hD : va_D A (wM E q (if (rp pd ty od).1 = -6 then (coR z (rp pd ty od).2.2.2 (rp pd ty od).2.2.1).1 else z) (if (rp pd ty od).1 = -6 then recP z pa pm else pa) sl sv sp pd ((rp pd ty od).2.2.2) (if (rp pd ty od).1 = -6 then recM pm else pm) (if (rp pd ty od).1 = -6 then 0 else ty) ((rp pd ty od).2.2.1) ((rp pd ty od).2.1) ((rp pd ty od).1)) := by rw [eqc_z, eqc_pa, eqc_pm, eqc_ty]; exact hD
    exact z_iret hx hb hr hlocks hK hS () (by first | rw [if_neg c_6] | (rw [if_pos c_6, hfin])) hP hD dX4_carryOut_11
