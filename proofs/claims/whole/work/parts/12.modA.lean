theorem ndX4_in : yX4_in.cls = RX4 ∧ yX4_in.cls ≠ "java/lang/invoke/MethodHandle" ∧ yX4_in.cls ≠ "java/lang/invoke/VarHandle" ∧ (parseMethodDescriptor yX4_in.desc).map (fun d => d.parameters.length) = some 3 := by decide +kernel
set_option maxRecDepth 100000 in
set_option maxHeartbeats 4000000 in
theorem c_X4_in (l : Launch) (E : zE) (v : Int) (lo : Int) (hi : Int) (h0 : rg v) (h1 : rg lo) (h2 : rg hi) : zF l E yX4_in wsX4_in 0 0 [.int (iI v), .int (iI lo), .int (iI hi)] ([]) (zb (lo ≤ v ∧ v ≤ hi)) ([]) := by
  refine zC_of (cc := cX4_in) (maxL := 3) (by decide) rfl (Nat.le_of_ble_eq_true rfl) ?_
  intro p e s m below meth c ls A hx hb hr hts hown hlocks hml hK hA hS hP hD hl
  have hown : s.vm.findClass RX4 = some m.cls := hown
  have hl : lv_has ls 3 [(0, .int (iI v)), (1, .int (iI lo)), (2, .int (iI hi))] := hl
  refine lv_iload_n hx hb dX4_in_0 rfl (lv_at hl 0 rfl) ?_
  refine lv_iload_n hx hb dX4_in_1 rfl (lv_at hl 1 rfl) ?_
  refine z_icmp_lt (tgt := 14) hx hb dX4_in_2 (by decide) ⟨by omega, by omega⟩ ⟨by omega, by omega⟩ (fun c_2 => ?_) (fun c_2 => ?_)
  · refine lv_iconst (v := iI 0) hx hb dX4_in_14 (by decide) ?_
    exact z_zret hx hb hr hlocks hK hS (Or.inl rfl) () (by first | rfl | trivial | exact zb_t' (by omega) | exact zb_f' (by omega) | omega) hP hD dX4_in_15
  · refine lv_iload_n hx hb dX4_in_5 rfl (lv_at hl 0 rfl) ?_
    refine lv_iload_n hx hb dX4_in_6 rfl (lv_at hl 2 rfl) ?_
    refine z_icmp_gt (tgt := 14) hx hb dX4_in_7 (by decide) ⟨by omega, by omega⟩ ⟨by omega, by omega⟩ (fun c_7 => ?_) (fun c_7 => ?_)
    · refine lv_iconst (v := iI 0) hx hb dX4_in_14 (by decide) ?_
      exact z_zret hx hb hr hlocks hK hS (Or.inl rfl) () (by first | rfl | trivial | exact zb_t' (by omega) | exact zb_f' (by omega) | omega) hP hD dX4_in_15
    · refine lv_iconst (v := iI 1) hx hb dX4_in_10 (by decide) ?_
      refine lv_goto (tgt := 15) hx hb dX4_in_11 (by decide) ?_
      exact z_zret hx hb hr hlocks hK hS (Or.inr rfl) () (by first | rfl | trivial | exact zb_t' (by omega) | exact zb_f' (by omega) | omega) hP hD dX4_in_15

theorem ndX4_isGroup : yX4_isGroup.cls = RX4 ∧ yX4_isGroup.cls ≠ "java/lang/invoke/MethodHandle" ∧ yX4_isGroup.cls ≠ "java/lang/invoke/VarHandle" ∧ (parseMethodDescriptor yX4_isGroup.desc).map (fun d => d.parameters.length) = some 1 := by decide +kernel
set_option maxRecDepth 100000 in
set_option maxHeartbeats 4000000 in
theorem c_X4_isGroup (l : Launch) (E : zE) (g : Int) (h0 : rg g) : zF l E yX4_isGroup wsX4_isGroup 1 22 [.int (iI g)] ([]) (zb (0 ≤ g ∧ g ≤ 5)) ([]) := by
  refine zC_of (cc := cX4_isGroup) (maxL := 1) (by decide) rfl (Nat.le_of_ble_eq_true rfl) ?_
  intro p e s m below meth c ls A hx hb hr hts hown hlocks hml hK hA hS hP hD hl
  have hown : s.vm.findClass RX4 = some m.cls := hown
  have hl : lv_has ls 1 [(0, .int (iI g))] := hl
  refine lv_iload_n hx hb dX4_isGroup_0 rfl (lv_at hl 0 rfl) ?_
  refine lv_iconst (v := iI 0) hx hb dX4_isGroup_1 (by decide) ?_
  refine lv_iconst (v := iI 5) hx hb dX4_isGroup_2 (by decide) ?_
  refine z_callS0 (As := [.int (iI g), .int (iI 0), .int (iI 5)]) (rest := []) hx hb hml hown hts hK hA hl.1 hP hD hS (c_X4_in l E  g 0 5  (⟨by omega, by omega⟩) (⟨by omega, by omega⟩) (⟨by omega, by omega⟩)) gX4_isGroup_X4_in rfl ndX4_in ⟨Nat.le_of_ble_eq_true rfl, Nat.le_of_ble_eq_true rfl⟩ rfl rfl (Nat.le_of_ble_eq_true rfl) dX4_isGroup_3 ⟨Nat.le_of_ble_eq_true rfl, Nat.le_of_ble_eq_true rfl⟩ (fun x H locs hpost hP hD hS => ?_)
  subst hpost
  exact z_zret hx hb hr hlocks hK hS zb_01 () (by first | rfl | trivial | exact zb_t' (by omega) | exact zb_f' (by omega) | omega) hP hD dX4_isGroup_6

theorem ndX4_of : yX4_of.cls = RX4 ∧ yX4_of.cls ≠ "java/lang/invoke/MethodHandle" ∧ yX4_of.cls ≠ "java/lang/invoke/VarHandle" ∧ (parseMethodDescriptor yX4_of.desc).map (fun d => d.parameters.length) = some 2 := by decide +kernel
set_option maxRecDepth 100000 in
set_option maxHeartbeats 4000000 in
theorem c_X4_of (l : Launch) (E : zE) (q : Nat → Nat) (z pa sl sv sp pd od : Int → Int) (pm ty om st wr : Int) (g : Int) (k : Int) (h0 : 0 ≤ g ∧ g ≤ 5) (h1 : 0 ≤ k ∧ k < 60) : zF l E yX4_of wsX4_of 0 0 [.ref (q 0), .int (iI g), .int (iI k)] (wM E q z pa sl sv sp pd od pm ty om st wr) (zg z g k) (wM E q z pa sl sv sp pd od pm ty om st wr) := by
  refine zC_of (cc := cX4_of) (maxL := 3) (by decide) rfl (Nat.le_of_ble_eq_true rfl) ?_
  intro p e s m below meth c ls A hx hb hr hts hown hlocks hml hK hA hS hP hD hl
  have hown : s.vm.findClass RX4 = some m.cls := hown
  have hl : lv_has ls 3 [(0, .ref (q 0)), (1, .int (iI g)), (2, .int (iI k))] := hl
  have hinX4 : ∀ v ∈ u_ws RX4 TX4 12, v ∈ wsX4_of := by decide +kernel
  have hf_7 := hts (.fieldLink RX4 7 "GenerationNamesModel" "z" "[I") (by decide +kernel)
  refine lv_aload_n hx hb dX4_of_0 rfl (lv_at hl 0 rfl) ?_
  refine va_get (D := E.1) (cl := vwCl) (ci := 4) (v := .ref (q 1)) (C := RX4) (T := TX4) (N := 12) hx hb hts hinX4 hown hK hP 0 rfl rfl 0 (by decide) hf_7 (fun _ h => h) rfl dX4_of_1 ?_
  refine lv_bipush (v := iI 7) hx hb dX4_of_4 (by decide) ?_
  refine lv_bipush (v := iI 60) hx hb dX4_of_6 (by decide) ?_
  refine lv_iload_n hx hb dX4_of_8 rfl (lv_at hl 1 rfl) ?_
  refine z_imul hx hb dX4_of_9 ?_
  refine z_iadd hx hb dX4_of_10 ?_
  refine lv_iload_n hx hb dX4_of_11 rfl (lv_at hl 2 rfl) ?_
  refine z_iadd hx hb dX4_of_12 ?_
  refine z_iald (D := E.1) (cl := vwCl) (tys := zT E) (f := z) hx hb hK hP 1 0 rfl rfl (by omega) (by omega) (by omega) dX4_of_13 ?_
  exact z_iret hx hb hr hlocks hK hS () (by first | rfl | trivial | exact zb_t' (by omega) | exact zb_f' (by omega) | omega) hP hD dX4_of_14

theorem ndX4_lay : yX4_lay.cls = RX4 ∧ yX4_lay.cls ≠ "java/lang/invoke/MethodHandle" ∧ yX4_lay.cls ≠ "java/lang/invoke/VarHandle" ∧ (parseMethodDescriptor yX4_lay.desc).map (fun d => d.parameters.length) = some 3 := by decide +kernel
set_option maxRecDepth 100000 in
set_option maxHeartbeats 4000000 in
theorem c_X4_lay (l : Launch) (E : zE) (q : Nat → Nat) (z pa sl sv sp pd od : Int → Int) (pm ty om st wr : Int) (g : Int) (k : Int) (v : Int) (h0 : 0 ≤ g ∧ g ≤ 5) (h1 : 0 ≤ k ∧ k < 60) : zFv l E yX4_lay wsX4_lay 0 0 [.ref (q 0), .int (iI g), .int (iI k), .int (iI v)] (wM E q z pa sl sv sp pd od pm ty om st wr) (wM E q (zs z g k v) pa sl sv sp pd od pm ty om st wr) := by
  refine zCv_of (cc := cX4_lay) (maxL := 4) (by decide) rfl (Nat.le_of_ble_eq_true rfl) ?_
  intro p e s m below meth c ls A hx hb hr hts hown hlocks hml hK hA hS hP hD hl
  have hown : s.vm.findClass RX4 = some m.cls := hown
  have hl : lv_has ls 4 [(0, .ref (q 0)), (1, .int (iI g)), (2, .int (iI k)), (3, .int (iI v))] := hl
  have hinX4 : ∀ v ∈ u_ws RX4 TX4 12, v ∈ wsX4_lay := by decide +kernel
  have hf_7 := hts (.fieldLink RX4 7 "GenerationNamesModel" "z" "[I") (by decide +kernel)
  refine lv_aload_n hx hb dX4_lay_0 rfl (lv_at hl 0 rfl) ?_
  refine va_get (D := E.1) (cl := vwCl) (ci := 4) (v := .ref (q 1)) (C := RX4) (T := TX4) (N := 12) hx hb hts hinX4 hown hK hP 0 rfl rfl 0 (by decide) hf_7 (fun _ h => h) rfl dX4_lay_1 ?_
  refine lv_bipush (v := iI 7) hx hb dX4_lay_4 (by decide) ?_
  refine lv_bipush (v := iI 60) hx hb dX4_lay_6 (by decide) ?_
  refine lv_iload_n hx hb dX4_lay_8 rfl (lv_at hl 1 rfl) ?_
  refine z_imul hx hb dX4_lay_9 ?_
  refine z_iadd hx hb dX4_lay_10 ?_
  refine lv_iload_n hx hb dX4_lay_11 rfl (lv_at hl 2 rfl) ?_
  refine z_iadd hx hb dX4_lay_12 ?_
  refine lv_iload_n hx hb dX4_lay_13 rfl (lv_at hl 3 rfl) ?_
  refine z_iast (D := E.1) (cl := vwCl) (tys := zT E) (f := z) hx hb hK hP hD hS 1 0 rfl rfl (by omega) (by omega) (by omega) dX4_lay_14 (fun H locs hP hD hS => ?_)
  have hP : va_P E.1 vwCl (wM E q (iU z ((7 + (60 * g)) + k) v) pa sl sv sp pd od pm ty om st wr) H := hP
  have hD : va_D A (wM E q (iU z ((7 + (60 * g)) + k) v) pa sl sv sp pd od pm ty om st wr) := hD
  exact z_vret hx hb hr hlocks hK hS () (by first | rfl | trivial | exact zb_t' (by omega) | exact zb_f' (by omega) | omega) hP hD dX4_lay_15

theorem ndX4_many : yX4_many.cls = RX4 ∧ yX4_many.cls ≠ "java/lang/invoke/MethodHandle" ∧ yX4_many.cls ≠ "java/lang/invoke/VarHandle" ∧ (parseMethodDescriptor yX4_many.desc).map (fun d => d.parameters.length) = some 1 := by decide +kernel
set_option maxRecDepth 100000 in
set_option maxHeartbeats 4000000 in
theorem c_X4_many (l : Launch) (E : zE) (q : Nat → Nat) (z pa sl sv sp pd od : Int → Int) (pm ty om st wr : Int) (g : Int) (h0 : 0 ≤ g ∧ g ≤ 5) : zF l E yX4_many wsX4_many 1 22 [.ref (q 0), .int (iI g)] (wM E q z pa sl sv sp pd od pm ty om st wr) (zg z g 1) (wM E q z pa sl sv sp pd od pm ty om st wr) := by
  refine zC_of (cc := cX4_many) (maxL := 2) (by decide) rfl (Nat.le_of_ble_eq_true rfl) ?_
  intro p e s m below meth c ls A hx hb hr hts hown hlocks hml hK hA hS hP hD hl
  have hown : s.vm.findClass RX4 = some m.cls := hown
  have hl : lv_has ls 2 [(0, .ref (q 0)), (1, .int (iI g))] := hl
  refine lv_aload_n hx hb dX4_many_0 rfl (lv_at hl 0 rfl) ?_
  refine lv_iload_n hx hb dX4_many_1 rfl (lv_at hl 1 rfl) ?_
  refine lv_iconst (v := iI 1) hx hb dX4_many_2 (by decide) ?_
  refine z_callV0 (ci := 4) (qk := 0) (As := [.int (iI g), .int (iI 1)]) (rest := []) hx hb hml hown hts hK hA hl.1 hP hD hS (c_X4_of l E q z pa sl sv sp pd od pm ty om st wr g 1  (by first | omega | exact hz | exact hz _ | exact ⟨by omega, by omega⟩) (by first | omega | exact hz | exact hz _ | exact ⟨by omega, by omega⟩)) gX4_many_X4_of rfl ndX4_of ⟨Nat.le_of_ble_eq_true rfl, Nat.le_of_ble_eq_true rfl⟩ rfl rfl rfl rfl rfl (Nat.le_of_ble_eq_true rfl) dX4_many_3 ⟨Nat.le_of_ble_eq_true rfl, Nat.le_of_ble_eq_true rfl⟩ (fun x u H locs hpost hP hD hS => ?_)
  subst hpost
  have hP : va_P E.1 vwCl (wM E q z pa sl sv sp pd od pm ty om st wr) H := hP
  have hD : va_D A (wM E q z pa sl sv sp pd od pm ty om st wr) := hD
  exact z_iret hx hb hr hlocks hK hS () (by first | rfl | trivial | exact zb_t' (by omega) | exact zb_f' (by omega) | omega) hP hD dX4_many_6

theorem ndX4_gen : yX4_gen.cls = RX4 ∧ yX4_gen.cls ≠ "java/lang/invoke/MethodHandle" ∧ yX4_gen.cls ≠ "java/lang/invoke/VarHandle" ∧ (parseMethodDescriptor yX4_gen.desc).map (fun d => d.parameters.length) = some 3 := by decide +kernel
set_option maxRecDepth 100000 in
set_option maxHeartbeats 4000000 in
theorem c_X4_gen (l : Launch) (E : zE) (q : Nat → Nat) (z pa sl sv sp pd od : Int → Int) (pm ty om st wr : Int) (g : Int) (pl : Int) (k : Int) (h0 : 0 ≤ g ∧ g ≤ 5) (h1 : 0 ≤ 15 + 5 * pl + k ∧ 15 + 5 * pl + k < 60) : zF l E yX4_gen wsX4_gen 1 22 [.ref (q 0), .int (iI g), .int (iI pl), .int (iI k)] (wM E q z pa sl sv sp pd od pm ty om st wr) (zg z g (15 + 5 * pl + k)) (wM E q z pa sl sv sp pd od pm ty om st wr) := by
  refine zC_of (cc := cX4_gen) (maxL := 4) (by decide) rfl (Nat.le_of_ble_eq_true rfl) ?_
  intro p e s m below meth c ls A hx hb hr hts hown hlocks hml hK hA hS hP hD hl
  have hown : s.vm.findClass RX4 = some m.cls := hown
  have hl : lv_has ls 4 [(0, .ref (q 0)), (1, .int (iI g)), (2, .int (iI pl)), (3, .int (iI k))] := hl
  refine lv_aload_n hx hb dX4_gen_0 rfl (lv_at hl 0 rfl) ?_
  refine lv_iload_n hx hb dX4_gen_1 rfl (lv_at hl 1 rfl) ?_
  refine lv_bipush (v := iI 15) hx hb dX4_gen_2 (by decide) ?_
  refine lv_iconst (v := iI 5) hx hb dX4_gen_4 (by decide) ?_
  refine lv_iload_n hx hb dX4_gen_5 rfl (lv_at hl 2 rfl) ?_
  refine z_imul hx hb dX4_gen_6 ?_
  refine z_iadd hx hb dX4_gen_7 ?_
  refine lv_iload_n hx hb dX4_gen_8 rfl (lv_at hl 3 rfl) ?_
  refine z_iadd hx hb dX4_gen_9 ?_
  refine z_callV0 (ci := 4) (qk := 0) (As := [.int (iI g), .int (iI ((15 + (5 * pl)) + k))]) (rest := []) hx hb hml hown hts hK hA hl.1 hP hD hS (c_X4_of l E q z pa sl sv sp pd od pm ty om st wr g ((15 + (5 * pl)) + k)  (by first | omega | exact hz | exact hz _ | exact ⟨by omega, by omega⟩) (by first | omega | exact hz | exact hz _ | exact ⟨by omega, by omega⟩)) gX4_gen_X4_of rfl ndX4_of ⟨Nat.le_of_ble_eq_true rfl, Nat.le_of_ble_eq_true rfl⟩ rfl rfl rfl rfl rfl (Nat.le_of_ble_eq_true rfl) dX4_gen_10 ⟨Nat.le_of_ble_eq_true rfl, Nat.le_of_ble_eq_true rfl⟩ (fun x u H locs hpost hP hD hS => ?_)
  subst hpost
  have hP : va_P E.1 vwCl (wM E q z pa sl sv sp pd od pm ty om st wr) H := hP
  have hD : va_D A (wM E q z pa sl sv sp pd od pm ty om st wr) := hD
  exact z_iret hx hb hr hlocks hK hS () (by first | rfl | trivial | exact zb_t' (by omega) | exact zb_f' (by omega) | omega) hP hD dX4_gen_13

theorem ndX4_layGen : yX4_layGen.cls = RX4 ∧ yX4_layGen.cls ≠ "java/lang/invoke/MethodHandle" ∧ yX4_layGen.cls ≠ "java/lang/invoke/VarHandle" ∧ (parseMethodDescriptor yX4_layGen.desc).map (fun d => d.parameters.length) = some 4 := by decide +kernel
set_option maxRecDepth 100000 in
set_option maxHeartbeats 4000000 in
theorem c_X4_layGen (l : Launch) (E : zE) (q : Nat → Nat) (z pa sl sv sp pd od : Int → Int) (pm ty om st wr : Int) (g : Int) (pl : Int) (k : Int) (v : Int) (h0 : 0 ≤ g ∧ g ≤ 5) (h1 : 0 ≤ 15 + 5 * pl + k ∧ 15 + 5 * pl + k < 60) : zFv l E yX4_layGen wsX4_layGen 1 23 [.ref (q 0), .int (iI g), .int (iI pl), .int (iI k), .int (iI v)] (wM E q z pa sl sv sp pd od pm ty om st wr) (wM E q (zs z g (15 + 5 * pl + k) v) pa sl sv sp pd od pm ty om st wr) := by
  refine zCv_of (cc := cX4_layGen) (maxL := 5) (by decide) rfl (Nat.le_of_ble_eq_true rfl) ?_
  intro p e s m below meth c ls A hx hb hr hts hown hlocks hml hK hA hS hP hD hl
  have hown : s.vm.findClass RX4 = some m.cls := hown
  have hl : lv_has ls 5 [(0, .ref (q 0)), (1, .int (iI g)), (2, .int (iI pl)), (3, .int (iI k)), (4, .int (iI v))] := hl
  refine lv_aload_n hx hb dX4_layGen_0 rfl (lv_at hl 0 rfl) ?_
  refine lv_iload_n hx hb dX4_layGen_1 rfl (lv_at hl 1 rfl) ?_
  refine lv_bipush (v := iI 15) hx hb dX4_layGen_2 (by decide) ?_
  refine lv_iconst (v := iI 5) hx hb dX4_layGen_4 (by decide) ?_
  refine lv_iload_n hx hb dX4_layGen_5 rfl (lv_at hl 2 rfl) ?_
  refine z_imul hx hb dX4_layGen_6 ?_
  refine z_iadd hx hb dX4_layGen_7 ?_
  refine lv_iload_n hx hb dX4_layGen_8 rfl (lv_at hl 3 rfl) ?_
  refine z_iadd hx hb dX4_layGen_9 ?_
  refine lv_iload hx hb dX4_layGen_10 (lv_at hl 4 rfl) ?_
  refine z_callVv0 (ci := 4) (qk := 0) (As := [.int (iI g), .int (iI ((15 + (5 * pl)) + k)), .int (iI v)]) (rest := []) hx hb hml hown hts hK hA hl.1 hP hD hS (c_X4_lay l E q z pa sl sv sp pd od pm ty om st wr g ((15 + (5 * pl)) + k) v  (by first | omega | exact hz | exact hz _ | exact ⟨by omega, by omega⟩) (by first | omega | exact hz | exact hz _ | exact ⟨by omega, by omega⟩)) gX4_layGen_X4_lay rfl ndX4_lay ⟨Nat.le_of_ble_eq_true rfl, Nat.le_of_ble_eq_true rfl⟩ rfl rfl rfl rfl rfl (Nat.le_of_ble_eq_true rfl) dX4_layGen_12 ⟨Nat.le_of_ble_eq_true rfl, Nat.le_of_ble_eq_true rfl⟩ (fun u H locs hpost hP hD hS => ?_)
  have hP : va_P E.1 vwCl (wM E q (zs z g ((15 + (5 * pl)) + k) v) pa sl sv sp pd od pm ty om st wr) H := hP
  have hD : va_D A (wM E q (zs z g ((15 + (5 * pl)) + k) v) pa sl sv sp pd od pm ty om st wr) := hD
  exact z_vret hx hb hr hlocks hK hS () (by first | rfl | trivial | exact zb_t' (by omega) | exact zb_f' (by omega) | omega) hP hD dX4_layGen_15

theorem ndX4_isHole : yX4_isHole.cls = RX4 ∧ yX4_isHole.cls ≠ "java/lang/invoke/MethodHandle" ∧ yX4_isHole.cls ≠ "java/lang/invoke/VarHandle" ∧ (parseMethodDescriptor yX4_isHole.desc).map (fun d => d.parameters.length) = some 2 := by decide +kernel
set_option maxRecDepth 100000 in
set_option maxHeartbeats 4000000 in
theorem c_X4_isHole (l : Launch) (E : zE) (q : Nat → Nat) (z pa sl sv sp pd od : Int → Int) (pm ty om st wr : Int) (g : Int) (pl : Int) (h0 : 0 ≤ g ∧ g ≤ 5) (h1 : 0 ≤ pl ∧ pl ≤ 8) (h2 : rg (zg z g (15 + 5 * pl + 2))) : zF l E yX4_isHole wsX4_isHole 2 45 [.ref (q 0), .int (iI g), .int (iI pl)] (wM E q z pa sl sv sp pd od pm ty om st wr) (zb (zg z g (15 + 5 * pl + 2) = -6)) (wM E q z pa sl sv sp pd od pm ty om st wr) := by
  refine zC_of (cc := cX4_isHole) (maxL := 3) (by decide) rfl (Nat.le_of_ble_eq_true rfl) ?_
  intro p e s m below meth c ls A hx hb hr hts hown hlocks hml hK hA hS hP hD hl
  have hown : s.vm.findClass RX4 = some m.cls := hown
  have hl : lv_has ls 3 [(0, .ref (q 0)), (1, .int (iI g)), (2, .int (iI pl))] := hl
  refine lv_aload_n hx hb dX4_isHole_0 rfl (lv_at hl 0 rfl) ?_
  refine lv_iload_n hx hb dX4_isHole_1 rfl (lv_at hl 1 rfl) ?_
  refine lv_iload_n hx hb dX4_isHole_2 rfl (lv_at hl 2 rfl) ?_
  refine lv_iconst (v := iI 2) hx hb dX4_isHole_3 (by decide) ?_
  refine z_callV0 (ci := 4) (qk := 0) (As := [.int (iI g), .int (iI pl), .int (iI 2)]) (rest := []) hx hb hml hown hts hK hA hl.1 hP hD hS (c_X4_gen l E q z pa sl sv sp pd od pm ty om st wr g pl 2  (by first | omega | exact hz | exact hz _ | exact ⟨by omega, by omega⟩) (by first | omega | exact hz | exact hz _ | exact ⟨by omega, by omega⟩)) gX4_isHole_X4_gen rfl ndX4_gen ⟨Nat.le_of_ble_eq_true rfl, Nat.le_of_ble_eq_true rfl⟩ rfl rfl rfl rfl rfl (Nat.le_of_ble_eq_true rfl) dX4_isHole_4 ⟨Nat.le_of_ble_eq_true rfl, Nat.le_of_ble_eq_true rfl⟩ (fun x u H locs hpost hP hD hS => ?_)
  subst hpost
  have hP : va_P E.1 vwCl (wM E q z pa sl sv sp pd od pm ty om st wr) H := hP
  have hD : va_D A (wM E q z pa sl sv sp pd od pm ty om st wr) := hD
  refine lv_bipush (v := iI (-6)) hx hb dX4_isHole_7 (by decide) ?_
  refine z_icmp_ne (tgt := 16) hx hb dX4_isHole_9 (by decide) ⟨by first | omega | exact (hz _).1 | exact (hz _).2, by first | omega | exact (hz _).1 | exact (hz _).2⟩ ⟨by first | omega | exact (hz _).1 | exact (hz _).2, by first | omega | exact (hz _).1 | exact (hz _).2⟩ (fun c_9 => ?_) (fun c_9 => ?_)
  · refine lv_iconst (v := iI 0) hx hb dX4_isHole_16 (by decide) ?_
    exact z_zret hx hb hr hlocks hK hS (Or.inl rfl) () (by first | rfl | trivial | exact zb_t' (by omega) | exact zb_f' (by omega) | omega) hP hD dX4_isHole_17
  · refine lv_iconst (v := iI 1) hx hb dX4_isHole_12 (by decide) ?_
    refine lv_goto (tgt := 17) hx hb dX4_isHole_13 (by decide) ?_
    exact z_zret hx hb hr hlocks hK hS (Or.inr rfl) () (by first | rfl | trivial | exact zb_t' (by omega) | exact zb_f' (by omega) | omega) hP hD dX4_isHole_17

theorem ndX4_runs : yX4_runs.cls = RX4 ∧ yX4_runs.cls ≠ "java/lang/invoke/MethodHandle" ∧ yX4_runs.cls ≠ "java/lang/invoke/VarHandle" ∧ (parseMethodDescriptor yX4_runs.desc).map (fun d => d.parameters.length) = some 0 := by decide +kernel
set_option maxRecDepth 100000 in
set_option maxHeartbeats 4000000 in
theorem c_X4_runs (l : Launch) (E : zE) (q : Nat → Nat) (z pa sl sv sp pd od : Int → Int) (pm ty om st wr : Int) (h0 : rg (z 1)) : zF l E yX4_runs wsX4_runs 0 0 [.ref (q 0)] (wM E q z pa sl sv sp pd od pm ty om st wr) (zb (z 1 = 1)) (wM E q z pa sl sv sp pd od pm ty om st wr) := by
  refine zC_of (cc := cX4_runs) (maxL := 1) (by decide) rfl (Nat.le_of_ble_eq_true rfl) ?_
  intro p e s m below meth c ls A hx hb hr hts hown hlocks hml hK hA hS hP hD hl
  have hown : s.vm.findClass RX4 = some m.cls := hown
  have hl : lv_has ls 1 [(0, .ref (q 0))] := hl
  have hinX4 : ∀ v ∈ u_ws RX4 TX4 12, v ∈ wsX4_runs := by decide +kernel
  have hf_7 := hts (.fieldLink RX4 7 "GenerationNamesModel" "z" "[I") (by decide +kernel)
  refine lv_aload_n hx hb dX4_runs_0 rfl (lv_at hl 0 rfl) ?_
  refine va_get (D := E.1) (cl := vwCl) (ci := 4) (v := .ref (q 1)) (C := RX4) (T := TX4) (N := 12) hx hb hts hinX4 hown hK hP 0 rfl rfl 0 (by decide) hf_7 (fun _ h => h) rfl dX4_runs_1 ?_
  refine lv_iconst (v := iI 1) hx hb dX4_runs_4 (by decide) ?_
  refine z_iald (D := E.1) (cl := vwCl) (tys := zT E) (f := z) hx hb hK hP 1 0 rfl rfl (by omega) (by omega) (by omega) dX4_runs_5 ?_
  refine lv_iconst (v := iI 1) hx hb dX4_runs_6 (by decide) ?_
  refine z_icmp_ne (tgt := 14) hx hb dX4_runs_7 (by decide) ⟨by first | omega | exact (hz _).1 | exact (hz _).2, by first | omega | exact (hz _).1 | exact (hz _).2⟩ ⟨by first | omega | exact (hz _).1 | exact (hz _).2, by first | omega | exact (hz _).1 | exact (hz _).2⟩ (fun c_7 => ?_) (fun c_7 => ?_)
  · refine lv_iconst (v := iI 0) hx hb dX4_runs_14 (by decide) ?_
    exact z_zret hx hb hr hlocks hK hS (Or.inl rfl) () (by first | rfl | trivial | exact zb_t' (by omega) | exact zb_f' (by omega) | omega) hP hD dX4_runs_15
  · refine lv_iconst (v := iI 1) hx hb dX4_runs_10 (by decide) ?_
    refine lv_goto (tgt := 15) hx hb dX4_runs_11 (by decide) ?_
    exact z_zret hx hb hr hlocks hK hS (Or.inr rfl) () (by first | rfl | trivial | exact zb_t' (by omega) | exact zb_f' (by omega) | omega) hP hD dX4_runs_15
