theorem ndX3_put : yX3_put.cls = RX3 ∧ yX3_put.cls ≠ "java/lang/invoke/MethodHandle" ∧ yX3_put.cls ≠ "java/lang/invoke/VarHandle" ∧ (parseMethodDescriptor yX3_put.desc).map (fun d => d.parameters.length) = some 1 := by decide +kernel
set_option maxRecDepth 100000 in
set_option maxHeartbeats 400000 in
theorem c_X3_put (l : Launch) (E : zE) (q : Nat → Nat) (nq : Nat → Nat) (sa ha : Int → Nat → Nat) (un : Int) (svd sg : Int → Int) (le : Int) (hv sv : Int → zSt) (jb jr lf jf rd vr : Int) (G : Int → zGr) (cu : Int) (h0 : 0 ≤ cu ∧ cu < 18446744073709551616) (h1 : 0 ≤ le ∧ le ≤ 80) : zF l E yX3_put wsX3_put 2 51 [.ref (q 0), .long (lL cu)] (wN E q nq sa ha un svd sg le hv sv jb jr lf jf rd vr G) (if nC 8 cu 0 < 1 then -2 else if 80 < le + nC 8 cu 0 then -4 else le + nC 8 cu 0) (wN E q nq sa ha un svd (if 1 ≤ nC 8 cu 0 ∧ le + nC 8 cu 0 ≤ 80 then apS sg le cu (nC 8 cu 0) else sg) (if 1 ≤ nC 8 cu 0 ∧ le + nC 8 cu 0 ≤ 80 then le + nC 8 cu 0 else le) hv sv jb jr lf jf rd vr G) := by
  refine zC_of (cc := cX3_put) (maxL := 3) (by decide) rfl (Nat.le_of_ble_eq_true rfl) ?_
  intro p e s m below meth c ls A hx hb hr hts hown hlocks hml hK hA hS hP hD hl
  have hown : s.vm.findClass RX3 = some m.cls := hown
  have hl : lv_has ls 3 [(0, .ref (q 0)), (1, .long (lL cu))] := hl
  have hinX3 : ∀ v ∈ u_ws RX3 TX3 6, v ∈ wsX3_put := by decide +kernel
  have hf_34 := hts (.fieldLink RX3 34 "GenerationNames" "pad" "LGenerationNames$Pad;") (by decide +kernel)
  refine lv_aload_n hx hb dX3_put_0 rfl (lv_at hl 0 rfl) ?_
  refine va_get (D := E.1) (cl := vwCl) (ci := 3) (v := .ref (q 4)) (C := RX3) (T := TX3) (N := 6) hx hb hts hinX3 hown hK hP 0 rfl rfl 5 (by decide) hf_34 (fun _ h => h) rfl dX3_put_1 ?_
  refine lv_lload_n hx hb dX3_put_4 rfl (lv_at hl 1 rfl) ?_
  refine z_callM (w0 := wK4 E q nq (har ha) sa un svd) (ci := 1) (qk := 0) (As := [.long (lL cu)]) (rest := []) hx hb hml hown hts hK hA hl.1 hP hD hS (c_X1_append l E (pq q) sg le cu  (by first | omega | assumption) (by first | omega | assumption)) gX3_put_X1_append rfl ndX1_append ⟨Nat.le_of_ble_eq_true rfl, Nat.le_of_ble_eq_true rfl⟩ rfl rfl rfl rfl rfl (Nat.le_of_ble_eq_true rfl) dX3_put_5 ⟨Nat.le_of_ble_eq_true rfl, Nat.le_of_ble_eq_true rfl⟩ (fun x u H locs hpost hP hD hS => ?_)
  subst hpost
  have hP : va_P E.1 vwCl (wN E q nq sa ha un svd (if 1 ≤ nC 8 cu 0 ∧ le + nC 8 cu 0 ≤ 80 then apS sg le cu (nC 8 cu 0) else sg) (if 1 ≤ nC 8 cu 0 ∧ le + nC 8 cu 0 ≤ 80 then le + nC 8 cu 0 else le) hv sv jb jr lf jf rd vr G) H := hP
  have hD : va_D A (wN E q nq sa ha un svd (if 1 ≤ nC 8 cu 0 ∧ le + nC 8 cu 0 ≤ 80 then apS sg le cu (nC 8 cu 0) else sg) (if 1 ≤ nC 8 cu 0 ∧ le + nC 8 cu 0 ≤ 80 then le + nC 8 cu 0 else le) hv sv jb jr lf jf rd vr G) := hD
  exact z_iret hx hb hr hlocks hK hS () rfl hP hD dX3_put_8

theorem ndX4_put : yX4_put.cls = RX4 ∧ yX4_put.cls ≠ "java/lang/invoke/MethodHandle" ∧ yX4_put.cls ≠ "java/lang/invoke/VarHandle" ∧ (parseMethodDescriptor yX4_put.desc).map (fun d => d.parameters.length) = some 1 := by decide +kernel
set_option maxRecDepth 100000 in
set_option maxHeartbeats 400000 in
theorem c_X4_put (l : Launch) (E : zE) (q : Nat → Nat) (z pa sl sv sp pd od : Int → Int) (pm ty om st wr : Int) (cu : Int) (h0 : 0 ≤ cu ∧ cu < 18446744073709551616) (h1 : 0 ≤ ty ∧ ty ≤ 80) : zF l E yX4_put wsX4_put 1 22 [.ref (q 0), .long (lL cu)] (wM E q z pa sl sv sp pd od pm ty om st wr) (if (nP cu).1 = 0 ∨ (nP cu).2 = 0 then -2 else if 80 < ty + (nP cu).1 then -4 else ty + (nP cu).1) (wM E q z pa sl sv sp (if 1 ≤ (nP cu).1 ∧ (nP cu).2 = 1 ∧ ty + (nP cu).1 ≤ 80 then apS pd ty cu (nP cu).1 else pd) od pm (if 1 ≤ (nP cu).1 ∧ (nP cu).2 = 1 ∧ ty + (nP cu).1 ≤ 80 then ty + (nP cu).1 else ty) om st wr) := by
  refine zC_of (cc := cX4_put) (maxL := 8) (by decide) rfl (Nat.le_of_ble_eq_true rfl) ?_
  intro p e s m below meth c ls A hx hb hr hts hown hlocks hml hK hA hS hP hD hl
  have hown : s.vm.findClass RX4 = some m.cls := hown
  have hl : lv_has ls 8 [(0, .ref (q 0)), (1, .long (lL cu))] := hl
  have hinX4 : ∀ v ∈ u_ws RX4 TX4 12, v ∈ wsX4_put := by decide +kernel
  have hf_151 := hts (.fieldLink RX4 151 "GenerationNamesModel" "typed" "I") (by decide +kernel)
  have hf_26 := hts (.fieldLink RX4 26 "GenerationNamesModel" "pad" "[C") (by decide +kernel)
  refine lv_iconst (v := iI 0) hx hb dX4_put_0 (by decide) ?_
  refine lv_istore_n (lv' := [(3, .int (iI 0)), (0, .ref (q 0)), (1, .long (lL cu))]) hx hb dX4_put_1 rfl hl (by decide) rfl (fun ls hl => ?_)
  refine lv_lload_n hx hb dX4_put_2 rfl (lv_at hl 2 rfl) ?_
  refine lv_lstore (lv' := [(4, .long (lL cu)), (3, .int (iI 0)), (0, .ref (q 0)), (1, .long (lL cu))]) hx hb dX4_put_3 hl (by decide) rfl (fun ls hl => ?_)
  refine lv_iconst (v := iI 1) hx hb dX4_put_5 (by decide) ?_
  refine lv_istore (lv' := [(6, .int (iI 1)), (4, .long (lL cu)), (3, .int (iI 0)), (0, .ref (q 0)), (1, .long (lL cu))]) hx hb dX4_put_6 hl (by decide) rfl (fun ls hl => ?_)
  have hloop8 : ∀ (n : Nat) (n1 : Int) (r1 : Int) (g1 : Int) (hmu : r1 = (n : Int)) (hi8_0 : g1 = 0 ∨ g1 = 1) (hi8_1 : gIv g1 r1 n1 cu) (hi8_2 : g1 = 0 → nP cu = (n1, 0)) (hi8_3 : 0 ≤ r1 ∧ r1 < 18446744073709551616) (hi8_4 : (n1 = 0 ∧ r1 < 18446744073709551616) ∨ (n1 = 1 ∧ r1 < 72057594037927936) ∨ (n1 = 2 ∧ r1 < 281474976710656) ∨ (n1 = 3 ∧ r1 < 1099511627776) ∨ (n1 = 4 ∧ r1 < 4294967296) ∨ (n1 = 5 ∧ r1 < 16777216) ∨ (n1 = 6 ∧ r1 < 65536) ∨ (n1 = 7 ∧ r1 < 256) ∨ (n1 = 8 ∧ r1 < 1)) (H : Heap) (locs : List Loc) (ls : Array Slot), va_P E.1 vwCl (wM E q z pa sl sv sp pd od pm ty om st wr) H → va_D A (wM E q z pa sl sv sp pd od pm ty om st wr) → va_S A s.heap H locs → lv_has ls 8 [(6, .int (iI g1)), (4, .long (lL r1)), (3, .int (iI n1)), (0, .ref (q 0)), (1, .long (lL cu))] → W p l e (zR 1 22) s m ([.ref (q 0), .long (lL cu)] : List Value).toArray below meth c H locs 0 0 (MQ below (zQ E A (S := Unit) (fun x _ => x = (if (nP cu).1 = 0 ∨ (nP cu).2 = 0 then -2 else if 80 < ty + (nP cu).1 then -4 else ty + (nP cu).1)) (fun _ => wM E q z pa sl sv sp (if 1 ≤ (nP cu).1 ∧ (nP cu).2 = 1 ∧ ty + (nP cu).1 ≤ 80 then apS pd ty cu (nP cu).1 else pd) od pm (if 1 ≤ (nP cu).1 ∧ (nP cu).2 = 1 ∧ ty + (nP cu).1 ≤ 80 then ty + (nP cu).1 else ty) om st wr)) ([.ref (q 0), .long (lL cu)] : List Value).toArray s 0 0 A) (F0 m 8 ls []) := by
    intro n
    induction n using Nat.strongRecOn with
    | ind n ih8 =>
      intro n1 r1 g1 hmu8 hi8_0 hi8_1 hi8_2 hi8_3 hi8_4 H locs ls hP hD hS hl
      refine lv_lload hx hb dX4_put_8 (lv_at hl 1 rfl) ?_
      refine lv_lconst (v := lL 0) hx hb dX4_put_10 (by decide) ?_
      refine W.lcmp hx hb dX4_put_11 ?_
      rw [lL_cmp0 (by omega)]
      refine z_if_eq (tgt := 49) hx hb dX4_put_12 (by decide) ⟨by first | omega | exact (sg0_rg _).1 | exact (sg0_rg _).2 | exact (cmpI_rg _ _).1 | exact (cmpI_rg _ _).2, by first | omega | exact (sg0_rg _).1 | exact (sg0_rg _).2 | exact (cmpI_rg _ _).1 | exact (cmpI_rg _ _).2⟩ (fun c_12 => ?_) (fun c_12 => ?_)
      · rw [sg0_eq] at c_12
        have hfin : nP cu = (n1, g1) := put_fin hi8_0 hi8_1 hi8_2 (by omega)
        clear hi8_1 hi8_2
        have hn1 : 0 ≤ n1 ∧ n1 ≤ 8 := by omega
        clear hi8_4
        have hg1 : 0 ≤ g1 ∧ g1 ≤ 1 := by omega
        refine lv_iload_n hx hb dX4_put_49 rfl (lv_at hl 2 rfl) ?_
        refine z_if_eq (tgt := 58) hx hb dX4_put_50 (by decide) ⟨by first | omega | exact (sg0_rg _).1 | exact (sg0_rg _).2 | exact (cmpI_rg _ _).1 | exact (cmpI_rg _ _).2, by first | omega | exact (sg0_rg _).1 | exact (sg0_rg _).2 | exact (cmpI_rg _ _).1 | exact (cmpI_rg _ _).2⟩ (fun c_50 => ?_) (fun c_50 => ?_)
        · refine lv_bipush (v := iI (-2)) hx hb dX4_put_58 (by decide) ?_
          have eqc_pd : (if 1 ≤ (nP cu).1 ∧ (nP cu).2 = 1 ∧ ty + (nP cu).1 ≤ 80 then apS pd ty cu (nP cu).1 else pd) = pd := by rw [hfin]; first | (rw [if_pos (by dsimp only; omega)]; rw [hi80_0, show t1 - ty = n1 by omega]; done) | (rw [if_pos (by dsimp only; omega)]; rw [hi80_0, show t1 - ty = n1 by omega]; rfl) | rw [if_neg (by dsimp only; omega)]
          have eqc_ty : (if 1 ≤ (nP cu).1 ∧ (nP cu).2 = 1 ∧ ty + (nP cu).1 ≤ 80 then ty + (nP cu).1 else ty) = ty := by rw [hfin]; first | (rw [if_pos (by dsimp only; omega)]; dsimp only; omega) | rw [if_neg (by dsimp only; omega)]
          have hP : va_P E.1 vwCl (wM E q z pa sl sv sp (if 1 ≤ (nP cu).1 ∧ (nP cu).2 = 1 ∧ ty + (nP cu).1 ≤ 80 then apS pd ty cu (nP cu).1 else pd) od pm (if 1 ≤ (nP cu).1 ∧ (nP cu).2 = 1 ∧ ty + (nP cu).1 ≤ 80 then ty + (nP cu).1 else ty) om st wr) H := by rw [eqc_pd, eqc_ty]; exact hP
          have hD : va_D A (wM E q z pa sl sv sp (if 1 ≤ (nP cu).1 ∧ (nP cu).2 = 1 ∧ ty + (nP cu).1 ≤ 80 then apS pd ty cu (nP cu).1 else pd) od pm (if 1 ≤ (nP cu).1 ∧ (nP cu).2 = 1 ∧ ty + (nP cu).1 ≤ 80 then ty + (nP cu).1 else ty) om st wr) := by rw [eqc_pd, eqc_ty]; exact hD
          exact z_iret hx hb hr hlocks hK hS () (by rw [hfin]; first | (rw [if_pos (by dsimp only; omega)]; done) | (rw [if_neg (by dsimp only; omega), if_pos (by dsimp only; omega)]; done) | (rw [if_neg (by dsimp only; omega), if_neg (by dsimp only; omega)]; dsimp only; omega)) hP hD dX4_put_60
        · refine lv_iload hx hb dX4_put_53 (lv_at hl 0 rfl) ?_
          refine z_if_ne (tgt := 61) hx hb dX4_put_55 (by decide) ⟨by first | omega | exact (sg0_rg _).1 | exact (sg0_rg _).2 | exact (cmpI_rg _ _).1 | exact (cmpI_rg _ _).2, by first | omega | exact (sg0_rg _).1 | exact (sg0_rg _).2 | exact (cmpI_rg _ _).1 | exact (cmpI_rg _ _).2⟩ (fun c_55 => ?_) (fun c_55 => ?_)
          · refine lv_aload_n hx hb dX4_put_61 rfl (lv_at hl 3 rfl) ?_
            refine va_get (D := E.1) (cl := vwCl) (ci := 4) (v := .int (iI ty)) (C := RX4) (T := TX4) (N := 12) hx hb hts hinX4 hown hK hP 0 rfl rfl 7 (by decide) hf_151 (fun _ h => h) rfl dX4_put_62 ?_
            refine lv_iload_n hx hb dX4_put_65 rfl (lv_at hl 2 rfl) ?_
            refine z_iadd hx hb dX4_put_66 ?_
            refine lv_bipush (v := iI 80) hx hb dX4_put_67 (by decide) ?_
            refine z_icmp_le (tgt := 75) hx hb dX4_put_69 (by decide) ⟨by first | omega | exact (sg0_rg _).1 | exact (sg0_rg _).2 | exact (cmpI_rg _ _).1 | exact (cmpI_rg _ _).2, by first | omega | exact (sg0_rg _).1 | exact (sg0_rg _).2 | exact (cmpI_rg _ _).1 | exact (cmpI_rg _ _).2⟩ ⟨by first | omega | exact (sg0_rg _).1 | exact (sg0_rg _).2 | exact (cmpI_rg _ _).1 | exact (cmpI_rg _ _).2, by first | omega | exact (sg0_rg _).1 | exact (sg0_rg _).2 | exact (cmpI_rg _ _).1 | exact (cmpI_rg _ _).2⟩ (fun c_69 => ?_) (fun c_69 => ?_)
            · refine lv_iload_n hx hb dX4_put_75 rfl (lv_at hl 2 rfl) ?_
              refine lv_iconst (v := iI 1) hx hb dX4_put_76 (by decide) ?_
              refine z_isub hx hb dX4_put_77 ?_
              refine lv_istore (lv' := [(7, .int (iI (n1 - 1))), (6, .int (iI g1)), (4, .long (lL r1)), (3, .int (iI n1)), (0, .ref (q 0)), (1, .long (lL cu))]) hx hb dX4_put_78 hl (by decide) rfl (fun ls hl => ?_)
              have hloop80 : ∀ (n : Nat) (p1 : Int → Int) (t1 : Int) (k1 : Int) (hmu : k1 + 1 = (n : Int)) (hi80_0 : p1 = itr (fun j y => iU y (ty + j) (chA cu (8 * (n1 - 1 - j)))) pd (t1 - ty).toNat) (hi80_1 : ty ≤ t1 ∧ t1 ≤ ty + n1) (hi80_2 : k1 = n1 - 1 - (t1 - ty)) (H : Heap) (locs : List Loc) (ls : Array Slot), va_P E.1 vwCl (wM E q z pa sl sv sp p1 od pm t1 om st wr) H → va_D A (wM E q z pa sl sv sp p1 od pm t1 om st wr) → va_S A s.heap H locs → lv_has ls 8 [(7, .int (iI k1)), (3, .int (iI n1)), (0, .ref (q 0)), (1, .long (lL cu))] → W p l e (zR 1 22) s m ([.ref (q 0), .long (lL cu)] : List Value).toArray below meth c H locs 0 0 (MQ below (zQ E A (S := Unit) (fun x _ => x = (if (nP cu).1 = 0 ∨ (nP cu).2 = 0 then -2 else if 80 < ty + (nP cu).1 then -4 else ty + (nP cu).1)) (fun _ => wM E q z pa sl sv sp (if 1 ≤ (nP cu).1 ∧ (nP cu).2 = 1 ∧ ty + (nP cu).1 ≤ 80 then apS pd ty cu (nP cu).1 else pd) od pm (if 1 ≤ (nP cu).1 ∧ (nP cu).2 = 1 ∧ ty + (nP cu).1 ≤ 80 then ty + (nP cu).1 else ty) om st wr)) ([.ref (q 0), .long (lL cu)] : List Value).toArray s 0 0 A) (F0 m 80 ls []) := by
                intro n
                induction n using Nat.strongRecOn with
                | ind n ih80 =>
                  intro p1 t1 k1 hmu80 hi80_0 hi80_1 hi80_2 H locs ls hP hD hS hl
                  refine lv_iload hx hb dX4_put_80 (lv_at hl 0 rfl) ?_
                  refine z_if_lt (tgt := 123) hx hb dX4_put_82 (by decide) ⟨by first | omega | exact (sg0_rg _).1 | exact (sg0_rg _).2 | exact (cmpI_rg _ _).1 | exact (cmpI_rg _ _).2, by first | omega | exact (sg0_rg _).1 | exact (sg0_rg _).2 | exact (cmpI_rg _ _).1 | exact (cmpI_rg _ _).2⟩ (fun c_82 => ?_) (fun c_82 => ?_)
                  · refine lv_aload_n hx hb dX4_put_123 rfl (lv_at hl 2 rfl) ?_
                    refine va_get (D := E.1) (cl := vwCl) (ci := 4) (v := .int (iI t1)) (C := RX4) (T := TX4) (N := 12) hx hb hts hinX4 hown hK hP 0 rfl rfl 7 (by decide) hf_151 (fun _ h => h) rfl dX4_put_124 ?_
                    have eqc_pd : (if 1 ≤ (nP cu).1 ∧ (nP cu).2 = 1 ∧ ty + (nP cu).1 ≤ 80 then apS pd ty cu (nP cu).1 else pd) = p1 := by rw [hfin]; first | (rw [if_pos (by dsimp only; omega)]; rw [hi80_0, show t1 - ty = n1 by omega]; done) | (rw [if_pos (by dsimp only; omega)]; rw [hi80_0, show t1 - ty = n1 by omega]; rfl) | rw [if_neg (by dsimp only; omega)]
                    have eqc_ty : (if 1 ≤ (nP cu).1 ∧ (nP cu).2 = 1 ∧ ty + (nP cu).1 ≤ 80 then ty + (nP cu).1 else ty) = t1 := by rw [hfin]; first | (rw [if_pos (by dsimp only; omega)]; dsimp only; omega) | rw [if_neg (by dsimp only; omega)]
                    have hP : va_P E.1 vwCl (wM E q z pa sl sv sp (if 1 ≤ (nP cu).1 ∧ (nP cu).2 = 1 ∧ ty + (nP cu).1 ≤ 80 then apS pd ty cu (nP cu).1 else pd) od pm (if 1 ≤ (nP cu).1 ∧ (nP cu).2 = 1 ∧ ty + (nP cu).1 ≤ 80 then ty + (nP cu).1 else ty) om st wr) H := by rw [eqc_pd, eqc_ty]; exact hP
                    have hD : va_D A (wM E q z pa sl sv sp (if 1 ≤ (nP cu).1 ∧ (nP cu).2 = 1 ∧ ty + (nP cu).1 ≤ 80 then apS pd ty cu (nP cu).1 else pd) od pm (if 1 ≤ (nP cu).1 ∧ (nP cu).2 = 1 ∧ ty + (nP cu).1 ≤ 80 then ty + (nP cu).1 else ty) om st wr) := by rw [eqc_pd, eqc_ty]; exact hD
                    exact z_iret hx hb hr hlocks hK hS () (by rw [hfin]; first | (rw [if_pos (by dsimp only; omega)]; done) | (rw [if_neg (by dsimp only; omega), if_pos (by dsimp only; omega)]; done) | (rw [if_neg (by dsimp only; omega), if_neg (by dsimp only; omega)]; dsimp only; omega)) hP hD dX4_put_127
                  · refine lv_aload_n hx hb dX4_put_85 rfl (lv_at hl 2 rfl) ?_
                    refine va_get (D := E.1) (cl := vwCl) (ci := 4) (v := .ref (q 6)) (C := RX4) (T := TX4) (N := 12) hx hb hts hinX4 hown hK hP 0 rfl rfl 6 (by decide) hf_26 (fun _ h => h) rfl dX4_put_86 ?_
                    refine lv_aload_n hx hb dX4_put_89 rfl (lv_at hl 2 rfl) ?_
                    refine va_get (D := E.1) (cl := vwCl) (ci := 4) (v := .int (iI t1)) (C := RX4) (T := TX4) (N := 12) hx hb hts hinX4 hown hK hP 0 rfl rfl 7 (by decide) hf_151 (fun _ h => h) rfl dX4_put_90 ?_
                    refine lv_lload_n hx hb dX4_put_93 rfl (lv_at hl 3 rfl) ?_
                    refine lv_bipush (v := iI 8) hx hb dX4_put_94 (by decide) ?_
                    refine lv_iload hx hb dX4_put_96 (lv_at hl 0 rfl) ?_
                    refine z_imul hx hb dX4_put_98 ?_
                    refine lv_lushr (v := lL (cu / 2 ^ ((8 * k1)).toNat)) hx hb dX4_put_99 (lL_shr (by omega) (by omega)) ?_
                    refine lv_ldc2 (v := 255) hx hb hown (hts (.constantLong RX4 163 (255)) (by decide +kernel)) dX4_put_100 ?_
                    rw [show (255 : Int64) = lL 255 from rfl]
                    refine lv_land hx hb dX4_put_103 ?_
                    rw [lL_and]
                    refine lv_l2i (v := iI ((cu / 2 ^ ((8 * k1)).toNat) % 256)) hx hb dX4_put_104 (lL_i _) ?_
                    refine lv_i2c (v := iI ((cu / 2 ^ ((8 * k1)).toNat) % 256)) hx hb dX4_put_105 (i2c_ok (by omega)) ?_
                    refine z_cast (D := E.1) (cl := vwCl) (tys := zT E) (f := p1) hx hb hK hP hD hS 6 2 rfl rfl (nar_ok (by omega)) (by omega) (by omega) (by omega) dX4_put_106 (fun H locs hP hD hS => ?_)
                    have hP : va_P E.1 vwCl (wM E q z pa sl sv sp (iU p1 t1 ((cu / 2 ^ ((8 * k1)).toNat) % 256)) od pm t1 om st wr) H := hP
                    have hD : va_D A (wM E q z pa sl sv sp (iU p1 t1 ((cu / 2 ^ ((8 * k1)).toNat) % 256)) od pm t1 om st wr) := hD
                    refine lv_aload_n hx hb dX4_put_107 rfl (lv_at hl 2 rfl) ?_
                    refine lv_dup hx hb dX4_put_108 rfl ?_
                    refine va_get (D := E.1) (cl := vwCl) (ci := 4) (v := .int (iI t1)) (C := RX4) (T := TX4) (N := 12) hx hb hts hinX4 hown hK hP 0 rfl rfl 7 (by decide) hf_151 (fun _ h => h) rfl dX4_put_109 ?_
                    refine lv_iconst (v := iI 1) hx hb dX4_put_112 (by decide) ?_
                    refine z_iadd hx hb dX4_put_113 ?_
                    refine va_put (D := E.1) (cl := vwCl) (ci := 4) (v := .int (iI (t1 + 1))) (ty := .int) (C := RX4) (T := TX4) (N := 12) hx hb hts hinX4 tyX4 tyX4_ok nmX4 hown hK hP hD hS 0 rfl rfl 7 (by decide) hf_151 (fun _ h => h) rfl (by decide +kernel) (rfl) (rfl) (Nat.le_of_ble_eq_true rfl) dX4_put_114 (fun H locs hP hD hS => ?_)
                    have hP : va_P E.1 vwCl (wM E q z pa sl sv sp (iU p1 t1 ((cu / 2 ^ ((8 * k1)).toNat) % 256)) od pm (t1 + 1) om st wr) H := hP
                    have hD : va_D A (wM E q z pa sl sv sp (iU p1 t1 ((cu / 2 ^ ((8 * k1)).toNat) % 256)) od pm (t1 + 1) om st wr) := hD
                    refine lv_iinc (v := iI (k1 + (-1))) (lv' := [(7, .int (iI (k1 + (-1)))), (3, .int (iI n1)), (0, .ref (q 0)), (1, .long (lL cu))]) hx hb dX4_put_117 hl (k := 0) rfl (iI_add _ _) (by decide) rfl (fun ls hl => ?_)
                    refine lv_goto (tgt := 80) hx hb dX4_put_120 (by decide) ?_
                    exact ih80 ((k1 + (-1)) + 1 : Int).toNat (by omega) (iU p1 t1 ((cu / 2 ^ ((8 * k1)).toNat) % 256)) (t1 + 1) (k1 + (-1)) (by omega) (by rw [show t1 + 1 - ty = (t1 - ty) + 1 by omega, itr_step (by omega), ← hi80_0, show ty + (t1 - ty) = t1 by omega, ← hi80_2]; rfl) (by omega) (by omega) _ _ ls hP hD hS (lv_sub hl [0, 1, 2, 3] rfl)
              exact hloop80 ((n1 - 1) + 1 : Int).toNat pd ty (n1 - 1) (by omega) (by rw [show ty - ty = 0 by omega]; rfl) (by omega) (by omega) _ _ ls hP hD hS (lv_sub hl [0, 3, 4, 5] rfl)
            · refine lv_bipush (v := iI (-4)) hx hb dX4_put_72 (by decide) ?_
              have eqc_pd : (if 1 ≤ (nP cu).1 ∧ (nP cu).2 = 1 ∧ ty + (nP cu).1 ≤ 80 then apS pd ty cu (nP cu).1 else pd) = pd := by rw [hfin]; first | (rw [if_pos (by dsimp only; omega)]; rw [hi80_0, show t1 - ty = n1 by omega]; done) | (rw [if_pos (by dsimp only; omega)]; rw [hi80_0, show t1 - ty = n1 by omega]; rfl) | rw [if_neg (by dsimp only; omega)]
              have eqc_ty : (if 1 ≤ (nP cu).1 ∧ (nP cu).2 = 1 ∧ ty + (nP cu).1 ≤ 80 then ty + (nP cu).1 else ty) = ty := by rw [hfin]; first | (rw [if_pos (by dsimp only; omega)]; dsimp only; omega) | rw [if_neg (by dsimp only; omega)]
              have hP : va_P E.1 vwCl (wM E q z pa sl sv sp (if 1 ≤ (nP cu).1 ∧ (nP cu).2 = 1 ∧ ty + (nP cu).1 ≤ 80 then apS pd ty cu (nP cu).1 else pd) od pm (if 1 ≤ (nP cu).1 ∧ (nP cu).2 = 1 ∧ ty + (nP cu).1 ≤ 80 then ty + (nP cu).1 else ty) om st wr) H := by rw [eqc_pd, eqc_ty]; exact hP
              have hD : va_D A (wM E q z pa sl sv sp (if 1 ≤ (nP cu).1 ∧ (nP cu).2 = 1 ∧ ty + (nP cu).1 ≤ 80 then apS pd ty cu (nP cu).1 else pd) od pm (if 1 ≤ (nP cu).1 ∧ (nP cu).2 = 1 ∧ ty + (nP cu).1 ≤ 80 then ty + (nP cu).1 else ty) om st wr) := by rw [eqc_pd, eqc_ty]; exact hD
              exact z_iret hx hb hr hlocks hK hS () (by rw [hfin]; first | (rw [if_pos (by dsimp only; omega)]; done) | (rw [if_neg (by dsimp only; omega), if_pos (by dsimp only; omega)]; done) | (rw [if_neg (by dsimp only; omega), if_neg (by dsimp only; omega)]; dsimp only; omega)) hP hD dX4_put_74
          · refine lv_bipush (v := iI (-2)) hx hb dX4_put_58 (by decide) ?_
            have eqc_pd : (if 1 ≤ (nP cu).1 ∧ (nP cu).2 = 1 ∧ ty + (nP cu).1 ≤ 80 then apS pd ty cu (nP cu).1 else pd) = pd := by rw [hfin]; first | (rw [if_pos (by dsimp only; omega)]; rw [hi80_0, show t1 - ty = n1 by omega]; done) | (rw [if_pos (by dsimp only; omega)]; rw [hi80_0, show t1 - ty = n1 by omega]; rfl) | rw [if_neg (by dsimp only; omega)]
            have eqc_ty : (if 1 ≤ (nP cu).1 ∧ (nP cu).2 = 1 ∧ ty + (nP cu).1 ≤ 80 then ty + (nP cu).1 else ty) = ty := by rw [hfin]; first | (rw [if_pos (by dsimp only; omega)]; dsimp only; omega) | rw [if_neg (by dsimp only; omega)]
            have hP : va_P E.1 vwCl (wM E q z pa sl sv sp (if 1 ≤ (nP cu).1 ∧ (nP cu).2 = 1 ∧ ty + (nP cu).1 ≤ 80 then apS pd ty cu (nP cu).1 else pd) od pm (if 1 ≤ (nP cu).1 ∧ (nP cu).2 = 1 ∧ ty + (nP cu).1 ≤ 80 then ty + (nP cu).1 else ty) om st wr) H := by rw [eqc_pd, eqc_ty]; exact hP
            have hD : va_D A (wM E q z pa sl sv sp (if 1 ≤ (nP cu).1 ∧ (nP cu).2 = 1 ∧ ty + (nP cu).1 ≤ 80 then apS pd ty cu (nP cu).1 else pd) od pm (if 1 ≤ (nP cu).1 ∧ (nP cu).2 = 1 ∧ ty + (nP cu).1 ≤ 80 then ty + (nP cu).1 else ty) om st wr) := by rw [eqc_pd, eqc_ty]; exact hD
            exact z_iret hx hb hr hlocks hK hS () (by rw [hfin]; first | (rw [if_pos (by dsimp only; omega)]; done) | (rw [if_neg (by dsimp only; omega), if_pos (by dsimp only; omega)]; done) | (rw [if_neg (by dsimp only; omega), if_neg (by dsimp only; omega)]; dsimp only; omega)) hP hD dX4_put_60
      · rw [sg0_eq] at c_12
        refine lv_iload hx hb dX4_put_15 (lv_at hl 0 rfl) ?_
        refine z_if_eq (tgt := 49) hx hb dX4_put_17 (by decide) ⟨by first | omega | exact (sg0_rg _).1 | exact (sg0_rg _).2 | exact (cmpI_rg _ _).1 | exact (cmpI_rg _ _).2, by first | omega | exact (sg0_rg _).1 | exact (sg0_rg _).2 | exact (cmpI_rg _ _).1 | exact (cmpI_rg _ _).2⟩ (fun c_17 => ?_) (fun c_17 => ?_)
        · have hfin : nP cu = (n1, g1) := put_fin hi8_0 hi8_1 hi8_2 (by omega)
          clear hi8_1 hi8_2
          have hn1 : 0 ≤ n1 ∧ n1 ≤ 8 := by omega
          clear hi8_4
          have hg1 : 0 ≤ g1 ∧ g1 ≤ 1 := by omega
          refine lv_iload_n hx hb dX4_put_49 rfl (lv_at hl 2 rfl) ?_
          refine z_if_eq (tgt := 58) hx hb dX4_put_50 (by decide) ⟨by first | omega | exact (sg0_rg _).1 | exact (sg0_rg _).2 | exact (cmpI_rg _ _).1 | exact (cmpI_rg _ _).2, by first | omega | exact (sg0_rg _).1 | exact (sg0_rg _).2 | exact (cmpI_rg _ _).1 | exact (cmpI_rg _ _).2⟩ (fun c_50 => ?_) (fun c_50 => ?_)
          · refine lv_bipush (v := iI (-2)) hx hb dX4_put_58 (by decide) ?_
            have eqc_pd : (if 1 ≤ (nP cu).1 ∧ (nP cu).2 = 1 ∧ ty + (nP cu).1 ≤ 80 then apS pd ty cu (nP cu).1 else pd) = pd := by rw [hfin]; first | (rw [if_pos (by dsimp only; omega)]; rw [hi80_0, show t1 - ty = n1 by omega]; done) | (rw [if_pos (by dsimp only; omega)]; rw [hi80_0, show t1 - ty = n1 by omega]; rfl) | rw [if_neg (by dsimp only; omega)]
            have eqc_ty : (if 1 ≤ (nP cu).1 ∧ (nP cu).2 = 1 ∧ ty + (nP cu).1 ≤ 80 then ty + (nP cu).1 else ty) = ty := by rw [hfin]; first | (rw [if_pos (by dsimp only; omega)]; dsimp only; omega) | rw [if_neg (by dsimp only; omega)]
            have hP : va_P E.1 vwCl (wM E q z pa sl sv sp (if 1 ≤ (nP cu).1 ∧ (nP cu).2 = 1 ∧ ty + (nP cu).1 ≤ 80 then apS pd ty cu (nP cu).1 else pd) od pm (if 1 ≤ (nP cu).1 ∧ (nP cu).2 = 1 ∧ ty + (nP cu).1 ≤ 80 then ty + (nP cu).1 else ty) om st wr) H := by rw [eqc_pd, eqc_ty]; exact hP
            have hD : va_D A (wM E q z pa sl sv sp (if 1 ≤ (nP cu).1 ∧ (nP cu).2 = 1 ∧ ty + (nP cu).1 ≤ 80 then apS pd ty cu (nP cu).1 else pd) od pm (if 1 ≤ (nP cu).1 ∧ (nP cu).2 = 1 ∧ ty + (nP cu).1 ≤ 80 then ty + (nP cu).1 else ty) om st wr) := by rw [eqc_pd, eqc_ty]; exact hD
            exact z_iret hx hb hr hlocks hK hS () (by rw [hfin]; first | (rw [if_pos (by dsimp only; omega)]; done) | (rw [if_neg (by dsimp only; omega), if_pos (by dsimp only; omega)]; done) | (rw [if_neg (by dsimp only; omega), if_neg (by dsimp only; omega)]; dsimp only; omega)) hP hD dX4_put_60
          · refine lv_iload hx hb dX4_put_53 (lv_at hl 0 rfl) ?_
            refine z_if_ne (tgt := 61) hx hb dX4_put_55 (by decide) ⟨by first | omega | exact (sg0_rg _).1 | exact (sg0_rg _).2 | exact (cmpI_rg _ _).1 | exact (cmpI_rg _ _).2, by first | omega | exact (sg0_rg _).1 | exact (sg0_rg _).2 | exact (cmpI_rg _ _).1 | exact (cmpI_rg _ _).2⟩ (fun c_55 => ?_) (fun c_55 => ?_)
            · refine lv_aload_n hx hb dX4_put_61 rfl (lv_at hl 3 rfl) ?_
              refine va_get (D := E.1) (cl := vwCl) (ci := 4) (v := .int (iI ty)) (C := RX4) (T := TX4) (N := 12) hx hb hts hinX4 hown hK hP 0 rfl rfl 7 (by decide) hf_151 (fun _ h => h) rfl dX4_put_62 ?_
              refine lv_iload_n hx hb dX4_put_65 rfl (lv_at hl 2 rfl) ?_
              refine z_iadd hx hb dX4_put_66 ?_
              refine lv_bipush (v := iI 80) hx hb dX4_put_67 (by decide) ?_
              refine z_icmp_le (tgt := 75) hx hb dX4_put_69 (by decide) ⟨by first | omega | exact (sg0_rg _).1 | exact (sg0_rg _).2 | exact (cmpI_rg _ _).1 | exact (cmpI_rg _ _).2, by first | omega | exact (sg0_rg _).1 | exact (sg0_rg _).2 | exact (cmpI_rg _ _).1 | exact (cmpI_rg _ _).2⟩ ⟨by first | omega | exact (sg0_rg _).1 | exact (sg0_rg _).2 | exact (cmpI_rg _ _).1 | exact (cmpI_rg _ _).2, by first | omega | exact (sg0_rg _).1 | exact (sg0_rg _).2 | exact (cmpI_rg _ _).1 | exact (cmpI_rg _ _).2⟩ (fun c_69 => ?_) (fun c_69 => ?_)
              · refine lv_iload_n hx hb dX4_put_75 rfl (lv_at hl 2 rfl) ?_
                refine lv_iconst (v := iI 1) hx hb dX4_put_76 (by decide) ?_
                refine z_isub hx hb dX4_put_77 ?_
                refine lv_istore (lv' := [(7, .int (iI (n1 - 1))), (6, .int (iI g1)), (4, .long (lL r1)), (3, .int (iI n1)), (0, .ref (q 0)), (1, .long (lL cu))]) hx hb dX4_put_78 hl (by decide) rfl (fun ls hl => ?_)
                have hloop80 : ∀ (n : Nat) (p1 : Int → Int) (t1 : Int) (k1 : Int) (hmu : k1 + 1 = (n : Int)) (hi80_0 : p1 = itr (fun j y => iU y (ty + j) (chA cu (8 * (n1 - 1 - j)))) pd (t1 - ty).toNat) (hi80_1 : ty ≤ t1 ∧ t1 ≤ ty + n1) (hi80_2 : k1 = n1 - 1 - (t1 - ty)) (H : Heap) (locs : List Loc) (ls : Array Slot), va_P E.1 vwCl (wM E q z pa sl sv sp p1 od pm t1 om st wr) H → va_D A (wM E q z pa sl sv sp p1 od pm t1 om st wr) → va_S A s.heap H locs → lv_has ls 8 [(7, .int (iI k1)), (3, .int (iI n1)), (0, .ref (q 0)), (1, .long (lL cu))] → W p l e (zR 1 22) s m ([.ref (q 0), .long (lL cu)] : List Value).toArray below meth c H locs 0 0 (MQ below (zQ E A (S := Unit) (fun x _ => x = (if (nP cu).1 = 0 ∨ (nP cu).2 = 0 then -2 else if 80 < ty + (nP cu).1 then -4 else ty + (nP cu).1)) (fun _ => wM E q z pa sl sv sp (if 1 ≤ (nP cu).1 ∧ (nP cu).2 = 1 ∧ ty + (nP cu).1 ≤ 80 then apS pd ty cu (nP cu).1 else pd) od pm (if 1 ≤ (nP cu).1 ∧ (nP cu).2 = 1 ∧ ty + (nP cu).1 ≤ 80 then ty + (nP cu).1 else ty) om st wr)) ([.ref (q 0), .long (lL cu)] : List Value).toArray s 0 0 A) (F0 m 80 ls []) := by
                  intro n
                  induction n using Nat.strongRecOn with
                  | ind n ih80 =>
                    intro p1 t1 k1 hmu80 hi80_0 hi80_1 hi80_2 H locs ls hP hD hS hl
                    refine lv_iload hx hb dX4_put_80 (lv_at hl 0 rfl) ?_
                    refine z_if_lt (tgt := 123) hx hb dX4_put_82 (by decide) ⟨by first | omega | exact (sg0_rg _).1 | exact (sg0_rg _).2 | exact (cmpI_rg _ _).1 | exact (cmpI_rg _ _).2, by first | omega | exact (sg0_rg _).1 | exact (sg0_rg _).2 | exact (cmpI_rg _ _).1 | exact (cmpI_rg _ _).2⟩ (fun c_82 => ?_) (fun c_82 => ?_)
                    · refine lv_aload_n hx hb dX4_put_123 rfl (lv_at hl 2 rfl) ?_
                      refine va_get (D := E.1) (cl := vwCl) (ci := 4) (v := .int (iI t1)) (C := RX4) (T := TX4) (N := 12) hx hb hts hinX4 hown hK hP 0 rfl rfl 7 (by decide) hf_151 (fun _ h => h) rfl dX4_put_124 ?_
                      have eqc_pd : (if 1 ≤ (nP cu).1 ∧ (nP cu).2 = 1 ∧ ty + (nP cu).1 ≤ 80 then apS pd ty cu (nP cu).1 else pd) = p1 := by rw [hfin]; first | (rw [if_pos (by dsimp only; omega)]; rw [hi80_0, show t1 - ty = n1 by omega]; done) | (rw [if_pos (by dsimp only; omega)]; rw [hi80_0, show t1 - ty = n1 by omega]; rfl) | rw [if_neg (by dsimp only; omega)]
                      have eqc_ty : (if 1 ≤ (nP cu).1 ∧ (nP cu).2 = 1 ∧ ty + (nP cu).1 ≤ 80 then ty + (nP cu).1 else ty) = t1 := by rw [hfin]; first | (rw [if_pos (by dsimp only; omega)]; dsimp only; omega) | rw [if_neg (by dsimp only; omega)]
                      have hP : va_P E.1 vwCl (wM E q z pa sl sv sp (if 1 ≤ (nP cu).1 ∧ (nP cu).2 = 1 ∧ ty + (nP cu).1 ≤ 80 then apS pd ty cu (nP cu).1 else pd) od pm (if 1 ≤ (nP cu).1 ∧ (nP cu).2 = 1 ∧ ty + (nP cu).1 ≤ 80 then ty + (nP cu).1 else ty) om st wr) H := by rw [eqc_pd, eqc_ty]; exact hP
                      have hD : va_D A (wM E q z pa sl sv sp (if 1 ≤ (nP cu).1 ∧ (nP cu).2 = 1 ∧ ty + (nP cu).1 ≤ 80 then apS pd ty cu (nP cu).1 else pd) od pm (if 1 ≤ (nP cu).1 ∧ (nP cu).2 = 1 ∧ ty + (nP cu).1 ≤ 80 then ty + (nP cu).1 else ty) om st wr) := by rw [eqc_pd, eqc_ty]; exact hD
                      exact z_iret hx hb hr hlocks hK hS () (by rw [hfin]; first | (rw [if_pos (by dsimp only; omega)]; done) | (rw [if_neg (by dsimp only; omega), if_pos (by dsimp only; omega)]; done) | (rw [if_neg (by dsimp only; omega), if_neg (by dsimp only; omega)]; dsimp only; omega)) hP hD dX4_put_127
                    · refine lv_aload_n hx hb dX4_put_85 rfl (lv_at hl 2 rfl) ?_
                      refine va_get (D := E.1) (cl := vwCl) (ci := 4) (v := .ref (q 6)) (C := RX4) (T := TX4) (N := 12) hx hb hts hinX4 hown hK hP 0 rfl rfl 6 (by decide) hf_26 (fun _ h => h) rfl dX4_put_86 ?_
                      refine lv_aload_n hx hb dX4_put_89 rfl (lv_at hl 2 rfl) ?_
                      refine va_get (D := E.1) (cl := vwCl) (ci := 4) (v := .int (iI t1)) (C := RX4) (T := TX4) (N := 12) hx hb hts hinX4 hown hK hP 0 rfl rfl 7 (by decide) hf_151 (fun _ h => h) rfl dX4_put_90 ?_
                      refine lv_lload_n hx hb dX4_put_93 rfl (lv_at hl 3 rfl) ?_
                      refine lv_bipush (v := iI 8) hx hb dX4_put_94 (by decide) ?_
                      refine lv_iload hx hb dX4_put_96 (lv_at hl 0 rfl) ?_
                      refine z_imul hx hb dX4_put_98 ?_
                      refine lv_lushr (v := lL (cu / 2 ^ ((8 * k1)).toNat)) hx hb dX4_put_99 (lL_shr (by omega) (by omega)) ?_
                      refine lv_ldc2 (v := 255) hx hb hown (hts (.constantLong RX4 163 (255)) (by decide +kernel)) dX4_put_100 ?_
                      rw [show (255 : Int64) = lL 255 from rfl]
                      refine lv_land hx hb dX4_put_103 ?_
                      rw [lL_and]
                      refine lv_l2i (v := iI ((cu / 2 ^ ((8 * k1)).toNat) % 256)) hx hb dX4_put_104 (lL_i _) ?_
                      refine lv_i2c (v := iI ((cu / 2 ^ ((8 * k1)).toNat) % 256)) hx hb dX4_put_105 (i2c_ok (by omega)) ?_
                      refine z_cast (D := E.1) (cl := vwCl) (tys := zT E) (f := p1) hx hb hK hP hD hS 6 2 rfl rfl (nar_ok (by omega)) (by omega) (by omega) (by omega) dX4_put_106 (fun H locs hP hD hS => ?_)
                      have hP : va_P E.1 vwCl (wM E q z pa sl sv sp (iU p1 t1 ((cu / 2 ^ ((8 * k1)).toNat) % 256)) od pm t1 om st wr) H := hP
                      have hD : va_D A (wM E q z pa sl sv sp (iU p1 t1 ((cu / 2 ^ ((8 * k1)).toNat) % 256)) od pm t1 om st wr) := hD
                      refine lv_aload_n hx hb dX4_put_107 rfl (lv_at hl 2 rfl) ?_
                      refine lv_dup hx hb dX4_put_108 rfl ?_
                      refine va_get (D := E.1) (cl := vwCl) (ci := 4) (v := .int (iI t1)) (C := RX4) (T := TX4) (N := 12) hx hb hts hinX4 hown hK hP 0 rfl rfl 7 (by decide) hf_151 (fun _ h => h) rfl dX4_put_109 ?_
                      refine lv_iconst (v := iI 1) hx hb dX4_put_112 (by decide) ?_
                      refine z_iadd hx hb dX4_put_113 ?_
                      refine va_put (D := E.1) (cl := vwCl) (ci := 4) (v := .int (iI (t1 + 1))) (ty := .int) (C := RX4) (T := TX4) (N := 12) hx hb hts hinX4 tyX4 tyX4_ok nmX4 hown hK hP hD hS 0 rfl rfl 7 (by decide) hf_151 (fun _ h => h) rfl (by decide +kernel) (rfl) (rfl) (Nat.le_of_ble_eq_true rfl) dX4_put_114 (fun H locs hP hD hS => ?_)
                      have hP : va_P E.1 vwCl (wM E q z pa sl sv sp (iU p1 t1 ((cu / 2 ^ ((8 * k1)).toNat) % 256)) od pm (t1 + 1) om st wr) H := hP
                      have hD : va_D A (wM E q z pa sl sv sp (iU p1 t1 ((cu / 2 ^ ((8 * k1)).toNat) % 256)) od pm (t1 + 1) om st wr) := hD
                      refine lv_iinc (v := iI (k1 + (-1))) (lv' := [(7, .int (iI (k1 + (-1)))), (3, .int (iI n1)), (0, .ref (q 0)), (1, .long (lL cu))]) hx hb dX4_put_117 hl (k := 0) rfl (iI_add _ _) (by decide) rfl (fun ls hl => ?_)
                      refine lv_goto (tgt := 80) hx hb dX4_put_120 (by decide) ?_
                      exact ih80 ((k1 + (-1)) + 1 : Int).toNat (by omega) (iU p1 t1 ((cu / 2 ^ ((8 * k1)).toNat) % 256)) (t1 + 1) (k1 + (-1)) (by omega) (by rw [show t1 + 1 - ty = (t1 - ty) + 1 by omega, itr_step (by omega), ← hi80_0, show ty + (t1 - ty) = t1 by omega, ← hi80_2]; rfl) (by omega) (by omega) _ _ ls hP hD hS (lv_sub hl [0, 1, 2, 3] rfl)
                exact hloop80 ((n1 - 1) + 1 : Int).toNat pd ty (n1 - 1) (by omega) (by rw [show ty - ty = 0 by omega]; rfl) (by omega) (by omega) _ _ ls hP hD hS (lv_sub hl [0, 3, 4, 5] rfl)
              · refine lv_bipush (v := iI (-4)) hx hb dX4_put_72 (by decide) ?_
                have eqc_pd : (if 1 ≤ (nP cu).1 ∧ (nP cu).2 = 1 ∧ ty + (nP cu).1 ≤ 80 then apS pd ty cu (nP cu).1 else pd) = pd := by rw [hfin]; first | (rw [if_pos (by dsimp only; omega)]; rw [hi80_0, show t1 - ty = n1 by omega]; done) | (rw [if_pos (by dsimp only; omega)]; rw [hi80_0, show t1 - ty = n1 by omega]; rfl) | rw [if_neg (by dsimp only; omega)]
                have eqc_ty : (if 1 ≤ (nP cu).1 ∧ (nP cu).2 = 1 ∧ ty + (nP cu).1 ≤ 80 then ty + (nP cu).1 else ty) = ty := by rw [hfin]; first | (rw [if_pos (by dsimp only; omega)]; dsimp only; omega) | rw [if_neg (by dsimp only; omega)]
                have hP : va_P E.1 vwCl (wM E q z pa sl sv sp (if 1 ≤ (nP cu).1 ∧ (nP cu).2 = 1 ∧ ty + (nP cu).1 ≤ 80 then apS pd ty cu (nP cu).1 else pd) od pm (if 1 ≤ (nP cu).1 ∧ (nP cu).2 = 1 ∧ ty + (nP cu).1 ≤ 80 then ty + (nP cu).1 else ty) om st wr) H := by rw [eqc_pd, eqc_ty]; exact hP
                have hD : va_D A (wM E q z pa sl sv sp (if 1 ≤ (nP cu).1 ∧ (nP cu).2 = 1 ∧ ty + (nP cu).1 ≤ 80 then apS pd ty cu (nP cu).1 else pd) od pm (if 1 ≤ (nP cu).1 ∧ (nP cu).2 = 1 ∧ ty + (nP cu).1 ≤ 80 then ty + (nP cu).1 else ty) om st wr) := by rw [eqc_pd, eqc_ty]; exact hD
                exact z_iret hx hb hr hlocks hK hS () (by rw [hfin]; first | (rw [if_pos (by dsimp only; omega)]; done) | (rw [if_neg (by dsimp only; omega), if_pos (by dsimp only; omega)]; done) | (rw [if_neg (by dsimp only; omega), if_neg (by dsimp only; omega)]; dsimp only; omega)) hP hD dX4_put_74
            · refine lv_bipush (v := iI (-2)) hx hb dX4_put_58 (by decide) ?_
              have eqc_pd : (if 1 ≤ (nP cu).1 ∧ (nP cu).2 = 1 ∧ ty + (nP cu).1 ≤ 80 then apS pd ty cu (nP cu).1 else pd) = pd := by rw [hfin]; first | (rw [if_pos (by dsimp only; omega)]; rw [hi80_0, show t1 - ty = n1 by omega]; done) | (rw [if_pos (by dsimp only; omega)]; rw [hi80_0, show t1 - ty = n1 by omega]; rfl) | rw [if_neg (by dsimp only; omega)]
              have eqc_ty : (if 1 ≤ (nP cu).1 ∧ (nP cu).2 = 1 ∧ ty + (nP cu).1 ≤ 80 then ty + (nP cu).1 else ty) = ty := by rw [hfin]; first | (rw [if_pos (by dsimp only; omega)]; dsimp only; omega) | rw [if_neg (by dsimp only; omega)]
              have hP : va_P E.1 vwCl (wM E q z pa sl sv sp (if 1 ≤ (nP cu).1 ∧ (nP cu).2 = 1 ∧ ty + (nP cu).1 ≤ 80 then apS pd ty cu (nP cu).1 else pd) od pm (if 1 ≤ (nP cu).1 ∧ (nP cu).2 = 1 ∧ ty + (nP cu).1 ≤ 80 then ty + (nP cu).1 else ty) om st wr) H := by rw [eqc_pd, eqc_ty]; exact hP
              have hD : va_D A (wM E q z pa sl sv sp (if 1 ≤ (nP cu).1 ∧ (nP cu).2 = 1 ∧ ty + (nP cu).1 ≤ 80 then apS pd ty cu (nP cu).1 else pd) od pm (if 1 ≤ (nP cu).1 ∧ (nP cu).2 = 1 ∧ ty + (nP cu).1 ≤ 80 then ty + (nP cu).1 else ty) om st wr) := by rw [eqc_pd, eqc_ty]; exact hD
              exact z_iret hx hb hr hlocks hK hS () (by rw [hfin]; first | (rw [if_pos (by dsimp only; omega)]; done) | (rw [if_neg (by dsimp only; omega), if_pos (by dsimp only; omega)]; done) | (rw [if_neg (by dsimp only; omega), if_neg (by dsimp only; omega)]; dsimp only; omega)) hP hD dX4_put_60
        · refine lv_lload hx hb dX4_put_20 (lv_at hl 1 rfl) ?_
          refine lv_ldc2 (v := 255) hx hb hown (hts (.constantLong RX4 163 (255)) (by decide +kernel)) dX4_put_22 ?_
          rw [show (255 : Int64) = lL 255 from rfl]
          refine lv_land hx hb dX4_put_25 ?_
          rw [lL_and]
          refine lv_l2i (v := iI (r1 % 256)) hx hb dX4_put_26 (lL_i _) ?_
          refine lv_bipush (v := iI 33) hx hb dX4_put_27 (by decide) ?_
          refine lv_bipush (v := iI 126) hx hb dX4_put_29 (by decide) ?_
          refine z_callS0 (As := [.int (iI (r1 % 256)), .int (iI 33), .int (iI 126)]) (rest := []) hx hb hml hown hts hK hA hl.1 hP hD hS (c_X4_in l E  (r1 % 256) 33 126  (by first | omega | assumption | exact ⟨by omega, by omega⟩) (by first | omega | assumption | exact ⟨by omega, by omega⟩) (by first | omega | assumption | exact ⟨by omega, by omega⟩)) gX4_put_X4_in rfl ndX4_in ⟨Nat.le_of_ble_eq_true rfl, Nat.le_of_ble_eq_true rfl⟩ rfl rfl (Nat.le_of_ble_eq_true rfl) dX4_put_31 ⟨Nat.le_of_ble_eq_true rfl, Nat.le_of_ble_eq_true rfl⟩ (fun x H locs hpost hP hD hS => ?_)
          subst hpost
          refine lv_istore (lv' := [(6, .int (iI (zb (33 ≤ (r1 % 256) ∧ (r1 % 256) ≤ 126)))), (4, .long (lL r1)), (3, .int (iI n1)), (0, .ref (q 0)), (1, .long (lL cu))]) hx hb dX4_put_34 hl (by decide) rfl (fun ls hl => ?_)
          refine lv_lload hx hb dX4_put_36 (lv_at hl 1 rfl) ?_
          refine lv_bipush (v := iI 8) hx hb dX4_put_38 (by decide) ?_
          refine lv_lushr (v := lL (r1 / 256)) hx hb dX4_put_40 (lL_shr8 (by omega)) ?_
          refine lv_lstore (lv' := [(4, .long (lL (r1 / 256))), (6, .int (iI (zb (33 ≤ (r1 % 256) ∧ (r1 % 256) ≤ 126)))), (3, .int (iI n1)), (0, .ref (q 0)), (1, .long (lL cu))]) hx hb dX4_put_41 hl (by decide) rfl (fun ls hl => ?_)
          refine lv_iinc (v := iI (n1 + 1)) (lv' := [(3, .int (iI (n1 + 1))), (4, .long (lL (r1 / 256))), (6, .int (iI (zb (33 ≤ (r1 % 256) ∧ (r1 % 256) ≤ 126)))), (0, .ref (q 0)), (1, .long (lL cu))]) hx hb dX4_put_43 hl (k := 2) rfl (iI_add _ _) (by decide) rfl (fun ls hl => ?_)
          refine lv_goto (tgt := 8) hx hb dX4_put_46 (by decide) ?_
          obtain ⟨k, hk1, hk2⟩ := hi8_1 (by omega)
          exact ih8 ((r1 / 256) : Int).toNat (by omega) (n1 + 1) (r1 / 256) (zb (33 ≤ (r1 % 256) ∧ (r1 % 256) ≤ 126)) (by omega) (zb_01) (fun h => by obtain ⟨j, hj1, hj2⟩ := pNm_step (n := n1) hk1 (by omega) (zb_of (by omega)); exact ⟨j, hj1, by rw [← hk2, hj2]⟩) (fun h => by rw [← hk2]; exact pNm_bad hk1 (by omega) (fun q => by rw [zb_t q] at h; omega)) (by omega) (by omega) _ _ ls hP hD hS (lv_sub hl [2, 1, 0, 3, 4] rfl)
  exact hloop8 (cu : Int).toNat 0 cu 1 (by omega) (by omega) (fun _ => ⟨cu.toNat, by omega, rfl⟩) (fun h => absurd h (by omega)) (by omega) (by omega) _ _ ls hP hD hS (lv_sub hl [0, 1, 2, 3, 4] rfl)
