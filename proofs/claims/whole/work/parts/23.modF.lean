theorem ndX4_record : yX4_record.cls = RX4 ∧ yX4_record.cls ≠ "java/lang/invoke/MethodHandle" ∧ yX4_record.cls ≠ "java/lang/invoke/VarHandle" ∧ (parseMethodDescriptor yX4_record.desc).map (fun d => d.parameters.length) = some 0 := by decide +kernel
set_option maxRecDepth 100000 in
set_option maxHeartbeats 200000 in
theorem c_X4_record (l : Launch) (E : zE) (q : Nat → Nat) (z pa sl sv sp pd od : Int → Int) (pm ty om st wr : Int) (h0 : 0 ≤ pm ∧ pm ≤ 6) : zFv l E yX4_record wsX4_record 0 0 [.ref (q 0)] (wM E q z pa sl sv sp pd od pm ty om st wr) (wM E q z (recP z pa pm) sl sv sp pd od (recM pm) ty om st wr) := by
  refine zCv_of (cc := cX4_record) (maxL := 2) (by decide) rfl (Nat.le_of_ble_eq_true rfl) ?_
  intro p e s m below meth c ls A hx hb hr hts hown hlocks hml hK hA hS hP hD hl
  have hown : s.vm.findClass RX4 = some m.cls := hown
  have hl : lv_has ls 2 [(0, .ref (q 0))] := hl
  have hinX4 : ∀ v ∈ u_ws RX4 TX4 12, v ∈ wsX4_record := by decide +kernel
  have hf_49 := hts (.fieldLink RX4 49 "GenerationNamesModel" "pastMany" "I") (by decide +kernel)
  have hf_13 := hts (.fieldLink RX4 13 "GenerationNamesModel" "past" "[I") (by decide +kernel)
  have hf_7 := hts (.fieldLink RX4 7 "GenerationNamesModel" "z" "[I") (by decide +kernel)
  refine lv_aload_n hx hb dX4_record_0 rfl (lv_at hl 0 rfl) ?_
  refine va_get (D := E.1) (cl := vwCl) (ci := 4) (v := .int (iI pm)) (C := RX4) (T := TX4) (N := 12) hx hb hts hinX4 hown hK hP 0 rfl rfl 4 (by decide) hf_49 (fun _ h => h) rfl dX4_record_1 ?_
  refine lv_bipush (v := iI 6) hx hb dX4_record_4 (by decide) ?_
  refine z_icmp_ne (tgt := 50) hx hb dX4_record_6 (by decide) ⟨by first | omega | exact (hz _).1 | exact (hz _).2, by first | omega | exact (hz _).1 | exact (hz _).2⟩ ⟨by first | omega | exact (hz _).1 | exact (hz _).2, by first | omega | exact (hz _).1 | exact (hz _).2⟩ (fun c_6 => ?_) (fun c_6 => ?_)
  · refine lv_iconst (v := iI 0) hx hb dX4_record_50 (by decide) ?_
    refine lv_istore_n (lv' := [(1, .int (iI 0)), (0, .ref (q 0))]) hx hb dX4_record_51 rfl hl (by decide) rfl (fun ls hl => ?_)
    have hloop52 : ∀ (n : Nat) (p2 : Int → Int) (i2 : Int) (hmu : 367 - i2 = (n : Int)) (hi52_0 : p2 = itr (fun k y => iU y (pm * 367 + k) (z k)) pa (i2).toNat) (hi52_1 : 0 ≤ i2 ∧ i2 ≤ 367) (H : Heap) (locs : List Loc) (ls : Array Slot), va_P E.1 vwCl (wM E q z p2 sl sv sp pd od pm ty om st wr) H → va_D A (wM E q z p2 sl sv sp pd od pm ty om st wr) → va_S A s.heap H locs → lv_has ls 2 [(1, .int (iI i2)), (0, .ref (q 0))] → W p l e (zR 0 0) s m ([.ref (q 0)] : List Value).toArray below meth c H locs 0 0 (MQ below (zQv E A (S := Unit) (fun _ => True) (fun _ => wM E q z (recP z pa pm) sl sv sp pd od (recM pm) ty om st wr)) ([.ref (q 0)] : List Value).toArray s 0 0 A) (F0 m 52 ls []) := by
      intro n
      induction n using Nat.strongRecOn with
      | ind n ih52 =>
        intro p2 i2 hmu52 hi52_0 hi52_1 H locs ls hP hD hS hl
        refine lv_iload_n hx hb dX4_record_52 rfl (lv_at hl 0 rfl) ?_
        refine lv_sipush (v := iI 367) hx hb dX4_record_53 (by decide) ?_
        refine z_icmp_ge (tgt := 86) hx hb dX4_record_56 (by decide) ⟨by first | omega | exact (hz _).1 | exact (hz _).2, by first | omega | exact (hz _).1 | exact (hz _).2⟩ ⟨by first | omega | exact (hz _).1 | exact (hz _).2, by first | omega | exact (hz _).1 | exact (hz _).2⟩ (fun c_56 => ?_) (fun c_56 => ?_)
        · refine lv_aload_n hx hb dX4_record_86 rfl (lv_at hl 1 rfl) ?_
          refine lv_dup hx hb dX4_record_87 rfl ?_
          refine va_get (D := E.1) (cl := vwCl) (ci := 4) (v := .int (iI pm)) (C := RX4) (T := TX4) (N := 12) hx hb hts hinX4 hown hK hP 0 rfl rfl 4 (by decide) hf_49 (fun _ h => h) rfl dX4_record_88 ?_
          refine lv_iconst (v := iI 1) hx hb dX4_record_91 (by decide) ?_
          refine z_iadd hx hb dX4_record_92 ?_
          refine va_put (D := E.1) (cl := vwCl) (ci := 4) (v := .int (iI (pm + 1))) (ty := .int) (C := RX4) (T := TX4) (N := 12) hx hb hts hinX4 tyX4 tyX4_ok nmX4 hown hK hP hD hS 0 rfl rfl 4 (by decide) hf_49 (fun _ h => h) rfl (by decide +kernel) (rfl) (rfl) (Nat.le_of_ble_eq_true rfl) dX4_record_93 (fun H locs hP hD hS => ?_)
          have hP : va_P E.1 vwCl (wM E q z p2 sl sv sp pd od (pm + 1) ty om st wr) H := hP
          have hD : va_D A (wM E q z p2 sl sv sp pd od (pm + 1) ty om st wr) := hD
          have eqc_pa : (recP z pa pm) = p2 := by unfold recP; (first | simp only [if_pos c_6] | simp only [if_neg c_6]); rw [hi52_0, show i2 = 367 by omega]; all_goals (rw [hi11_0, show i1 = 1835 by omega])
          have eqc_pm : (recM pm) = (pm + 1) := by unfold recM; first | rw [if_pos c_6] | rw [if_neg c_6]
          have hP : va_P E.1 vwCl (wM E q z (recP z pa pm) sl sv sp pd od (recM pm) ty om st wr) H := by rw [eqc_pa, eqc_pm]; exact hP
          have hD : va_D A (wM E q z (recP z pa pm) sl sv sp pd od (recM pm) ty om st wr) := by rw [eqc_pa, eqc_pm]; exact hD
          exact z_vret hx hb hr hlocks hK hS () (by first | rfl | trivial | exact zb_t' (by omega) | exact zb_f' (by omega) | omega) hP hD dX4_record_96
        · refine lv_aload_n hx hb dX4_record_59 rfl (lv_at hl 1 rfl) ?_
          refine va_get (D := E.1) (cl := vwCl) (ci := 4) (v := .ref (q 2)) (C := RX4) (T := TX4) (N := 12) hx hb hts hinX4 hown hK hP 0 rfl rfl 1 (by decide) hf_13 (fun _ h => h) rfl dX4_record_60 ?_
          refine lv_aload_n hx hb dX4_record_63 rfl (lv_at hl 1 rfl) ?_
          refine va_get (D := E.1) (cl := vwCl) (ci := 4) (v := .int (iI pm)) (C := RX4) (T := TX4) (N := 12) hx hb hts hinX4 hown hK hP 0 rfl rfl 4 (by decide) hf_49 (fun _ h => h) rfl dX4_record_64 ?_
          refine lv_sipush (v := iI 367) hx hb dX4_record_67 (by decide) ?_
          refine z_imul hx hb dX4_record_70 ?_
          refine lv_iload_n hx hb dX4_record_71 rfl (lv_at hl 0 rfl) ?_
          refine z_iadd hx hb dX4_record_72 ?_
          refine lv_aload_n hx hb dX4_record_73 rfl (lv_at hl 1 rfl) ?_
          refine va_get (D := E.1) (cl := vwCl) (ci := 4) (v := .ref (q 1)) (C := RX4) (T := TX4) (N := 12) hx hb hts hinX4 hown hK hP 0 rfl rfl 0 (by decide) hf_7 (fun _ h => h) rfl dX4_record_74 ?_
          refine lv_iload_n hx hb dX4_record_77 rfl (lv_at hl 0 rfl) ?_
          refine z_iald (D := E.1) (cl := vwCl) (tys := zT E) (f := z) hx hb hK hP 1 0 rfl rfl (by omega) (by omega) (by omega) dX4_record_78 ?_
          refine z_iast (D := E.1) (cl := vwCl) (tys := zT E) (f := p2) hx hb hK hP hD hS 2 0 rfl rfl (by omega) (by omega) (by omega) dX4_record_79 (fun H locs hP hD hS => ?_)
          have hP : va_P E.1 vwCl (wM E q z (iU p2 ((pm * 367) + i2) (z i2)) sl sv sp pd od pm ty om st wr) H := hP
          have hD : va_D A (wM E q z (iU p2 ((pm * 367) + i2) (z i2)) sl sv sp pd od pm ty om st wr) := hD
          refine lv_iinc (v := iI (i2 + 1)) (lv' := [(1, .int (iI (i2 + 1))), (0, .ref (q 0))]) hx hb dX4_record_80 hl (k := 0) rfl (iI_add _ _) (by decide) rfl (fun ls hl => ?_)
          refine lv_goto (tgt := 52) hx hb dX4_record_83 (by decide) ?_
          exact ih52 (367 - (i2 + 1) : Int).toNat (by omega) (iU p2 ((pm * 367) + i2) (z i2)) (i2 + 1) (by omega) (by rw [itr_step (by omega), ← hi52_0]) (by omega) _ _ ls hP hD hS (lv_sub hl [0, 1] rfl)
    exact hloop52 (367 - 0 : Int).toNat pa 0 (by omega) (rfl) (by omega) _ _ ls hP hD hS (lv_sub hl [0, 1] rfl)
  · refine lv_iconst (v := iI 0) hx hb dX4_record_9 (by decide) ?_
    refine lv_istore_n (lv' := [(1, .int (iI 0)), (0, .ref (q 0))]) hx hb dX4_record_10 rfl hl (by decide) rfl (fun ls hl => ?_)
    have hloop11 : ∀ (n : Nat) (p1 : Int → Int) (i1 : Int) (hmu : 1835 - i1 = (n : Int)) (hi11_0 : p1 = itr (fun k y => iU y k (y (k + 367))) pa (i1).toNat) (hi11_1 : 0 ≤ i1 ∧ i1 ≤ 1835) (H : Heap) (locs : List Loc) (ls : Array Slot), va_P E.1 vwCl (wM E q z p1 sl sv sp pd od pm ty om st wr) H → va_D A (wM E q z p1 sl sv sp pd od pm ty om st wr) → va_S A s.heap H locs → lv_has ls 2 [(1, .int (iI i1)), (0, .ref (q 0))] → W p l e (zR 0 0) s m ([.ref (q 0)] : List Value).toArray below meth c H locs 0 0 (MQ below (zQv E A (S := Unit) (fun _ => True) (fun _ => wM E q z (recP z pa pm) sl sv sp pd od (recM pm) ty om st wr)) ([.ref (q 0)] : List Value).toArray s 0 0 A) (F0 m 11 ls []) := by
      intro n
      induction n using Nat.strongRecOn with
      | ind n ih11 =>
        intro p1 i1 hmu11 hi11_0 hi11_1 H locs ls hP hD hS hl
        refine lv_iload_n hx hb dX4_record_11 rfl (lv_at hl 0 rfl) ?_
        refine lv_sipush (v := iI 1835) hx hb dX4_record_12 (by decide) ?_
        refine z_icmp_ge (tgt := 40) hx hb dX4_record_15 (by decide) ⟨by first | omega | exact (hz _).1 | exact (hz _).2, by first | omega | exact (hz _).1 | exact (hz _).2⟩ ⟨by first | omega | exact (hz _).1 | exact (hz _).2, by first | omega | exact (hz _).1 | exact (hz _).2⟩ (fun c_15 => ?_) (fun c_15 => ?_)
        · refine lv_aload_n hx hb dX4_record_40 rfl (lv_at hl 1 rfl) ?_
          refine lv_dup hx hb dX4_record_41 rfl ?_
          refine va_get (D := E.1) (cl := vwCl) (ci := 4) (v := .int (iI pm)) (C := RX4) (T := TX4) (N := 12) hx hb hts hinX4 hown hK hP 0 rfl rfl 4 (by decide) hf_49 (fun _ h => h) rfl dX4_record_42 ?_
          refine lv_iconst (v := iI 1) hx hb dX4_record_45 (by decide) ?_
          refine z_isub hx hb dX4_record_46 ?_
          refine va_put (D := E.1) (cl := vwCl) (ci := 4) (v := .int (iI (pm - 1))) (ty := .int) (C := RX4) (T := TX4) (N := 12) hx hb hts hinX4 tyX4 tyX4_ok nmX4 hown hK hP hD hS 0 rfl rfl 4 (by decide) hf_49 (fun _ h => h) rfl (by decide +kernel) (rfl) (rfl) (Nat.le_of_ble_eq_true rfl) dX4_record_47 (fun H locs hP hD hS => ?_)
          have hP : va_P E.1 vwCl (wM E q z p1 sl sv sp pd od (pm - 1) ty om st wr) H := hP
          have hD : va_D A (wM E q z p1 sl sv sp pd od (pm - 1) ty om st wr) := hD
          refine lv_iconst (v := iI 0) hx hb dX4_record_50 (by decide) ?_
          refine lv_istore_n (lv' := [(1, .int (iI 0)), (0, .ref (q 0))]) hx hb dX4_record_51 rfl hl (by decide) rfl (fun ls hl => ?_)
          have hloop52 : ∀ (n : Nat) (p2 : Int → Int) (i2 : Int) (hmu : 367 - i2 = (n : Int)) (hi52_0 : p2 = itr (fun k y => iU y ((pm - 1) * 367 + k) (z k)) p1 (i2).toNat) (hi52_1 : 0 ≤ i2 ∧ i2 ≤ 367) (H : Heap) (locs : List Loc) (ls : Array Slot), va_P E.1 vwCl (wM E q z p2 sl sv sp pd od (pm - 1) ty om st wr) H → va_D A (wM E q z p2 sl sv sp pd od (pm - 1) ty om st wr) → va_S A s.heap H locs → lv_has ls 2 [(1, .int (iI i2)), (0, .ref (q 0))] → W p l e (zR 0 0) s m ([.ref (q 0)] : List Value).toArray below meth c H locs 0 0 (MQ below (zQv E A (S := Unit) (fun _ => True) (fun _ => wM E q z (recP z pa pm) sl sv sp pd od (recM pm) ty om st wr)) ([.ref (q 0)] : List Value).toArray s 0 0 A) (F0 m 52 ls []) := by
            intro n
            induction n using Nat.strongRecOn with
            | ind n ih52 =>
              intro p2 i2 hmu52 hi52_0 hi52_1 H locs ls hP hD hS hl
              refine lv_iload_n hx hb dX4_record_52 rfl (lv_at hl 0 rfl) ?_
              refine lv_sipush (v := iI 367) hx hb dX4_record_53 (by decide) ?_
              refine z_icmp_ge (tgt := 86) hx hb dX4_record_56 (by decide) ⟨by first | omega | exact (hz _).1 | exact (hz _).2, by first | omega | exact (hz _).1 | exact (hz _).2⟩ ⟨by first | omega | exact (hz _).1 | exact (hz _).2, by first | omega | exact (hz _).1 | exact (hz _).2⟩ (fun c_56 => ?_) (fun c_56 => ?_)
              · refine lv_aload_n hx hb dX4_record_86 rfl (lv_at hl 1 rfl) ?_
                refine lv_dup hx hb dX4_record_87 rfl ?_
                refine va_get (D := E.1) (cl := vwCl) (ci := 4) (v := .int (iI (pm - 1))) (C := RX4) (T := TX4) (N := 12) hx hb hts hinX4 hown hK hP 0 rfl rfl 4 (by decide) hf_49 (fun _ h => h) rfl dX4_record_88 ?_
                refine lv_iconst (v := iI 1) hx hb dX4_record_91 (by decide) ?_
                refine z_iadd hx hb dX4_record_92 ?_
                refine va_put (D := E.1) (cl := vwCl) (ci := 4) (v := .int (iI ((pm - 1) + 1))) (ty := .int) (C := RX4) (T := TX4) (N := 12) hx hb hts hinX4 tyX4 tyX4_ok nmX4 hown hK hP hD hS 0 rfl rfl 4 (by decide) hf_49 (fun _ h => h) rfl (by decide +kernel) (rfl) (rfl) (Nat.le_of_ble_eq_true rfl) dX4_record_93 (fun H locs hP hD hS => ?_)
                have hP : va_P E.1 vwCl (wM E q z p2 sl sv sp pd od ((pm - 1) + 1) ty om st wr) H := hP
                have hD : va_D A (wM E q z p2 sl sv sp pd od ((pm - 1) + 1) ty om st wr) := hD
                have eqc_pa : (recP z pa pm) = p2 := by unfold recP; (first | simp only [if_pos c_6] | simp only [if_neg c_6]); rw [hi52_0, show i2 = 367 by omega]; all_goals (rw [hi11_0, show i1 = 1835 by omega])
                have eqc_pm : (recM pm) = ((pm - 1) + 1) := by unfold recM; first | rw [if_pos c_6] | rw [if_neg c_6]
                have hP : va_P E.1 vwCl (wM E q z (recP z pa pm) sl sv sp pd od (recM pm) ty om st wr) H := by rw [eqc_pa, eqc_pm]; exact hP
                have hD : va_D A (wM E q z (recP z pa pm) sl sv sp pd od (recM pm) ty om st wr) := by rw [eqc_pa, eqc_pm]; exact hD
                exact z_vret hx hb hr hlocks hK hS () (by first | rfl | trivial | exact zb_t' (by omega) | exact zb_f' (by omega) | omega) hP hD dX4_record_96
              · refine lv_aload_n hx hb dX4_record_59 rfl (lv_at hl 1 rfl) ?_
                refine va_get (D := E.1) (cl := vwCl) (ci := 4) (v := .ref (q 2)) (C := RX4) (T := TX4) (N := 12) hx hb hts hinX4 hown hK hP 0 rfl rfl 1 (by decide) hf_13 (fun _ h => h) rfl dX4_record_60 ?_
                refine lv_aload_n hx hb dX4_record_63 rfl (lv_at hl 1 rfl) ?_
                refine va_get (D := E.1) (cl := vwCl) (ci := 4) (v := .int (iI (pm - 1))) (C := RX4) (T := TX4) (N := 12) hx hb hts hinX4 hown hK hP 0 rfl rfl 4 (by decide) hf_49 (fun _ h => h) rfl dX4_record_64 ?_
                refine lv_sipush (v := iI 367) hx hb dX4_record_67 (by decide) ?_
                refine z_imul hx hb dX4_record_70 ?_
                refine lv_iload_n hx hb dX4_record_71 rfl (lv_at hl 0 rfl) ?_
                refine z_iadd hx hb dX4_record_72 ?_
                refine lv_aload_n hx hb dX4_record_73 rfl (lv_at hl 1 rfl) ?_
                refine va_get (D := E.1) (cl := vwCl) (ci := 4) (v := .ref (q 1)) (C := RX4) (T := TX4) (N := 12) hx hb hts hinX4 hown hK hP 0 rfl rfl 0 (by decide) hf_7 (fun _ h => h) rfl dX4_record_74 ?_
                refine lv_iload_n hx hb dX4_record_77 rfl (lv_at hl 0 rfl) ?_
                refine z_iald (D := E.1) (cl := vwCl) (tys := zT E) (f := z) hx hb hK hP 1 0 rfl rfl (by omega) (by omega) (by omega) dX4_record_78 ?_
                refine z_iast (D := E.1) (cl := vwCl) (tys := zT E) (f := p2) hx hb hK hP hD hS 2 0 rfl rfl (by omega) (by omega) (by omega) dX4_record_79 (fun H locs hP hD hS => ?_)
                have hP : va_P E.1 vwCl (wM E q z (iU p2 (((pm - 1) * 367) + i2) (z i2)) sl sv sp pd od (pm - 1) ty om st wr) H := hP
                have hD : va_D A (wM E q z (iU p2 (((pm - 1) * 367) + i2) (z i2)) sl sv sp pd od (pm - 1) ty om st wr) := hD
                refine lv_iinc (v := iI (i2 + 1)) (lv' := [(1, .int (iI (i2 + 1))), (0, .ref (q 0))]) hx hb dX4_record_80 hl (k := 0) rfl (iI_add _ _) (by decide) rfl (fun ls hl => ?_)
                refine lv_goto (tgt := 52) hx hb dX4_record_83 (by decide) ?_
                exact ih52 (367 - (i2 + 1) : Int).toNat (by omega) (iU p2 (((pm - 1) * 367) + i2) (z i2)) (i2 + 1) (by omega) (by rw [itr_step (by omega), ← hi52_0]) (by omega) _ _ ls hP hD hS (lv_sub hl [0, 1] rfl)
          exact hloop52 (367 - 0 : Int).toNat p1 0 (by omega) (rfl) (by omega) _ _ ls hP hD hS (lv_sub hl [0, 1] rfl)
        · refine lv_aload_n hx hb dX4_record_18 rfl (lv_at hl 1 rfl) ?_
          refine va_get (D := E.1) (cl := vwCl) (ci := 4) (v := .ref (q 2)) (C := RX4) (T := TX4) (N := 12) hx hb hts hinX4 hown hK hP 0 rfl rfl 1 (by decide) hf_13 (fun _ h => h) rfl dX4_record_19 ?_
          refine lv_iload_n hx hb dX4_record_22 rfl (lv_at hl 0 rfl) ?_
          refine lv_aload_n hx hb dX4_record_23 rfl (lv_at hl 1 rfl) ?_
          refine va_get (D := E.1) (cl := vwCl) (ci := 4) (v := .ref (q 2)) (C := RX4) (T := TX4) (N := 12) hx hb hts hinX4 hown hK hP 0 rfl rfl 1 (by decide) hf_13 (fun _ h => h) rfl dX4_record_24 ?_
          refine lv_iload_n hx hb dX4_record_27 rfl (lv_at hl 0 rfl) ?_
          refine lv_sipush (v := iI 367) hx hb dX4_record_28 (by decide) ?_
          refine z_iadd hx hb dX4_record_31 ?_
          refine z_iald (D := E.1) (cl := vwCl) (tys := zT E) (f := p1) hx hb hK hP 2 0 rfl rfl (by omega) (by omega) (by omega) dX4_record_32 ?_
          refine z_iast (D := E.1) (cl := vwCl) (tys := zT E) (f := p1) hx hb hK hP hD hS 2 0 rfl rfl (by omega) (by omega) (by omega) dX4_record_33 (fun H locs hP hD hS => ?_)
          have hP : va_P E.1 vwCl (wM E q z (iU p1 i1 (p1 (i1 + 367))) sl sv sp pd od pm ty om st wr) H := hP
          have hD : va_D A (wM E q z (iU p1 i1 (p1 (i1 + 367))) sl sv sp pd od pm ty om st wr) := hD
          refine lv_iinc (v := iI (i1 + 1)) (lv' := [(1, .int (iI (i1 + 1))), (0, .ref (q 0))]) hx hb dX4_record_34 hl (k := 0) rfl (iI_add _ _) (by decide) rfl (fun ls hl => ?_)
          refine lv_goto (tgt := 11) hx hb dX4_record_37 (by decide) ?_
          exact ih11 (1835 - (i1 + 1) : Int).toNat (by omega) (iU p1 i1 (p1 (i1 + 367))) (i1 + 1) (by omega) (by rw [itr_step (by omega), ← hi11_0]) (by omega) _ _ ls hP hD hS (lv_sub hl [0, 1] rfl)
    exact hloop11 (1835 - 0 : Int).toNat pa 0 (by omega) (rfl) (by omega) _ _ ls hP hD hS (lv_sub hl [0, 1] rfl)

theorem ndX4_undo : yX4_undo.cls = RX4 ∧ yX4_undo.cls ≠ "java/lang/invoke/MethodHandle" ∧ yX4_undo.cls ≠ "java/lang/invoke/VarHandle" ∧ (parseMethodDescriptor yX4_undo.desc).map (fun d => d.parameters.length) = some 0 := by decide +kernel
set_option maxRecDepth 100000 in
set_option maxHeartbeats 200000 in
theorem c_X4_undo (l : Launch) (E : zE) (q : Nat → Nat) (z pa sl sv sp pd od : Int → Int) (pm ty om st wr : Int) (h0 : 0 ≤ pm ∧ pm ≤ 6) : zF l E yX4_undo wsX4_undo 0 0 [.ref (q 0)] (wM E q z pa sl sv sp pd od pm ty om st wr) (if pm = 0 then -5 else pm - 1) (wM E q (if pm = 0 then z else undoZ z pa pm) pa sl sv sp pd od (if pm = 0 then pm else pm - 1) ty om st wr) := by
  refine zC_of (cc := cX4_undo) (maxL := 2) (by decide) rfl (Nat.le_of_ble_eq_true rfl) ?_
  intro p e s m below meth c ls A hx hb hr hts hown hlocks hml hK hA hS hP hD hl
  have hown : s.vm.findClass RX4 = some m.cls := hown
  have hl : lv_has ls 2 [(0, .ref (q 0))] := hl
  have hinX4 : ∀ v ∈ u_ws RX4 TX4 12, v ∈ wsX4_undo := by decide +kernel
  have hf_49 := hts (.fieldLink RX4 49 "GenerationNamesModel" "pastMany" "I") (by decide +kernel)
  have hf_7 := hts (.fieldLink RX4 7 "GenerationNamesModel" "z" "[I") (by decide +kernel)
  have hf_13 := hts (.fieldLink RX4 13 "GenerationNamesModel" "past" "[I") (by decide +kernel)
  refine lv_aload_n hx hb dX4_undo_0 rfl (lv_at hl 0 rfl) ?_
  refine va_get (D := E.1) (cl := vwCl) (ci := 4) (v := .int (iI pm)) (C := RX4) (T := TX4) (N := 12) hx hb hts hinX4 hown hK hP 0 rfl rfl 4 (by decide) hf_49 (fun _ h => h) rfl dX4_undo_1 ?_
  refine z_if_ne (tgt := 10) hx hb dX4_undo_4 (by decide) ⟨by first | omega | exact (hz _ _ (by omega)).1 | exact (hz _ _ (by omega)).2, by first | omega | exact (hz _ _ (by omega)).1 | exact (hz _ _ (by omega)).2⟩ (fun c_4 => ?_) (fun c_4 => ?_)
  · refine lv_aload_n hx hb dX4_undo_10 rfl (lv_at hl 0 rfl) ?_
    refine lv_dup hx hb dX4_undo_11 rfl ?_
    refine va_get (D := E.1) (cl := vwCl) (ci := 4) (v := .int (iI pm)) (C := RX4) (T := TX4) (N := 12) hx hb hts hinX4 hown hK hP 0 rfl rfl 4 (by decide) hf_49 (fun _ h => h) rfl dX4_undo_12 ?_
    refine lv_iconst (v := iI 1) hx hb dX4_undo_15 (by decide) ?_
    refine z_isub hx hb dX4_undo_16 ?_
    refine va_put (D := E.1) (cl := vwCl) (ci := 4) (v := .int (iI (pm - 1))) (ty := .int) (C := RX4) (T := TX4) (N := 12) hx hb hts hinX4 tyX4 tyX4_ok nmX4 hown hK hP hD hS 0 rfl rfl 4 (by decide) hf_49 (fun _ h => h) rfl (by decide +kernel) (rfl) (rfl) (Nat.le_of_ble_eq_true rfl) dX4_undo_17 (fun H locs hP hD hS => ?_)
    have hP : va_P E.1 vwCl (wM E q z pa sl sv sp pd od (pm - 1) ty om st wr) H := hP
    have hD : va_D A (wM E q z pa sl sv sp pd od (pm - 1) ty om st wr) := hD
    refine lv_iconst (v := iI 0) hx hb dX4_undo_20 (by decide) ?_
    refine lv_istore_n (lv' := [(1, .int (iI 0)), (0, .ref (q 0))]) hx hb dX4_undo_21 rfl hl (by decide) rfl (fun ls hl => ?_)
    have hloop22 : ∀ (n : Nat) (z1 : Int → Int) (i1 : Int) (hmu : 367 - i1 = (n : Int)) (hi22_0 : z1 = itr (fun k y => iU y k (pa ((pm - 1) * 367 + k))) z (i1).toNat) (hi22_1 : 0 ≤ i1 ∧ i1 ≤ 367) (H : Heap) (locs : List Loc) (ls : Array Slot), va_P E.1 vwCl (wM E q z1 pa sl sv sp pd od (pm - 1) ty om st wr) H → va_D A (wM E q z1 pa sl sv sp pd od (pm - 1) ty om st wr) → va_S A s.heap H locs → lv_has ls 2 [(1, .int (iI i1)), (0, .ref (q 0))] → W p l e (zR 0 0) s m ([.ref (q 0)] : List Value).toArray below meth c H locs 0 0 (MQ below (zQ E A (S := Unit) (fun x _ => x = (if pm = 0 then -5 else pm - 1)) (fun _ => wM E q (if pm = 0 then z else undoZ z pa pm) pa sl sv sp pd od (if pm = 0 then pm else pm - 1) ty om st wr)) ([.ref (q 0)] : List Value).toArray s 0 0 A) (F0 m 22 ls []) := by
      intro n
      induction n using Nat.strongRecOn with
      | ind n ih22 =>
        intro z1 i1 hmu22 hi22_0 hi22_1 H locs ls hP hD hS hl
        refine lv_iload_n hx hb dX4_undo_22 rfl (lv_at hl 0 rfl) ?_
        refine lv_sipush (v := iI 367) hx hb dX4_undo_23 (by decide) ?_
        refine z_icmp_ge (tgt := 56) hx hb dX4_undo_26 (by decide) ⟨by first | omega | exact (hz _ _ (by omega)).1 | exact (hz _ _ (by omega)).2, by first | omega | exact (hz _ _ (by omega)).1 | exact (hz _ _ (by omega)).2⟩ ⟨by first | omega | exact (hz _ _ (by omega)).1 | exact (hz _ _ (by omega)).2, by first | omega | exact (hz _ _ (by omega)).1 | exact (hz _ _ (by omega)).2⟩ (fun c_26 => ?_) (fun c_26 => ?_)
        · refine lv_aload_n hx hb dX4_undo_56 rfl (lv_at hl 1 rfl) ?_
          refine va_get (D := E.1) (cl := vwCl) (ci := 4) (v := .int (iI (pm - 1))) (C := RX4) (T := TX4) (N := 12) hx hb hts hinX4 hown hK hP 0 rfl rfl 4 (by decide) hf_49 (fun _ h => h) rfl dX4_undo_57 ?_
          have eqc_z : (if pm = 0 then z else undoZ z pa pm) = z1 := by (first | rw [if_pos (by omega)] | rw [if_neg (by omega)]); all_goals (unfold undoZ; rw [hi22_0, show i1 = 367 by omega])
          have eqc_pm : (if pm = 0 then pm else pm - 1) = (pm - 1) := by (first | rw [if_pos (by omega)] | rw [if_neg (by omega)])
          have hP : va_P E.1 vwCl (wM E q (if pm = 0 then z else undoZ z pa pm) pa sl sv sp pd od (if pm = 0 then pm else pm - 1) ty om st wr) H := by rw [eqc_z, eqc_pm]; exact hP
          have hD : va_D A (wM E q (if pm = 0 then z else undoZ z pa pm) pa sl sv sp pd od (if pm = 0 then pm else pm - 1) ty om st wr) := by rw [eqc_z, eqc_pm]; exact hD
          exact z_iret hx hb hr hlocks hK hS () (by (repeat (first | with_reducible rfl | rw [if_pos (by omega)] | rw [if_neg (by omega)]))) hP hD dX4_undo_60
        · refine lv_aload_n hx hb dX4_undo_29 rfl (lv_at hl 1 rfl) ?_
          refine va_get (D := E.1) (cl := vwCl) (ci := 4) (v := .ref (q 1)) (C := RX4) (T := TX4) (N := 12) hx hb hts hinX4 hown hK hP 0 rfl rfl 0 (by decide) hf_7 (fun _ h => h) rfl dX4_undo_30 ?_
          refine lv_iload_n hx hb dX4_undo_33 rfl (lv_at hl 0 rfl) ?_
          refine lv_aload_n hx hb dX4_undo_34 rfl (lv_at hl 1 rfl) ?_
          refine va_get (D := E.1) (cl := vwCl) (ci := 4) (v := .ref (q 2)) (C := RX4) (T := TX4) (N := 12) hx hb hts hinX4 hown hK hP 0 rfl rfl 1 (by decide) hf_13 (fun _ h => h) rfl dX4_undo_35 ?_
          refine lv_aload_n hx hb dX4_undo_38 rfl (lv_at hl 1 rfl) ?_
          refine va_get (D := E.1) (cl := vwCl) (ci := 4) (v := .int (iI (pm - 1))) (C := RX4) (T := TX4) (N := 12) hx hb hts hinX4 hown hK hP 0 rfl rfl 4 (by decide) hf_49 (fun _ h => h) rfl dX4_undo_39 ?_
          refine lv_sipush (v := iI 367) hx hb dX4_undo_42 (by decide) ?_
          refine z_imul hx hb dX4_undo_45 ?_
          refine lv_iload_n hx hb dX4_undo_46 rfl (lv_at hl 0 rfl) ?_
          refine z_iadd hx hb dX4_undo_47 ?_
          refine z_iald (D := E.1) (cl := vwCl) (tys := zT E) (f := pa) hx hb hK hP 2 0 rfl rfl (by omega) (by omega) (by omega) dX4_undo_48 ?_
          refine z_iast (D := E.1) (cl := vwCl) (tys := zT E) (f := z1) hx hb hK hP hD hS 1 0 rfl rfl (by omega) (by omega) (by omega) dX4_undo_49 (fun H locs hP hD hS => ?_)
          have hP : va_P E.1 vwCl (wM E q (iU z1 i1 (pa (((pm - 1) * 367) + i1))) pa sl sv sp pd od (pm - 1) ty om st wr) H := hP
          have hD : va_D A (wM E q (iU z1 i1 (pa (((pm - 1) * 367) + i1))) pa sl sv sp pd od (pm - 1) ty om st wr) := hD
          refine lv_iinc (v := iI (i1 + 1)) (lv' := [(1, .int (iI (i1 + 1))), (0, .ref (q 0))]) hx hb dX4_undo_50 hl (k := 0) rfl (iI_add _ _) (by decide) rfl (fun ls hl => ?_)
          refine lv_goto (tgt := 22) hx hb dX4_undo_53 (by decide) ?_
          exact ih22 (367 - (i1 + 1) : Int).toNat (by omega) (iU z1 i1 (pa (((pm - 1) * 367) + i1))) (i1 + 1) (by omega) (by rw [itr_step (by omega), ← hi22_0]) (by omega) _ _ ls hP hD hS (lv_sub hl [0, 1] rfl)
    exact hloop22 (367 - 0 : Int).toNat z 0 (by omega) (rfl) (by omega) _ _ ls hP hD hS (lv_sub hl [0, 1] rfl)
  · refine lv_bipush (v := iI (-5)) hx hb dX4_undo_7 (by decide) ?_
    have eqc_z : (if pm = 0 then z else undoZ z pa pm) = z := by (first | rw [if_pos (by omega)] | rw [if_neg (by omega)]); all_goals (unfold undoZ; rw [hi22_0, show i1 = 367 by omega])
    have eqc_pm : (if pm = 0 then pm else pm - 1) = pm := by (first | rw [if_pos (by omega)] | rw [if_neg (by omega)])
    have hP : va_P E.1 vwCl (wM E q (if pm = 0 then z else undoZ z pa pm) pa sl sv sp pd od (if pm = 0 then pm else pm - 1) ty om st wr) s.heap := by rw [eqc_z, eqc_pm]; exact hP
    have hD : va_D A (wM E q (if pm = 0 then z else undoZ z pa pm) pa sl sv sp pd od (if pm = 0 then pm else pm - 1) ty om st wr) := by rw [eqc_z, eqc_pm]; exact hD
    exact z_iret hx hb hr hlocks hK hS () (by (repeat (first | with_reducible rfl | rw [if_pos (by omega)] | rw [if_neg (by omega)]))) hP hD dX4_undo_9

theorem ndX4_save : yX4_save.cls = RX4 ∧ yX4_save.cls ≠ "java/lang/invoke/MethodHandle" ∧ yX4_save.cls ≠ "java/lang/invoke/VarHandle" ∧ (parseMethodDescriptor yX4_save.desc).map (fun d => d.parameters.length) = some 1 := by decide +kernel
set_option maxRecDepth 100000 in
set_option maxHeartbeats 200000 in
theorem c_X4_save (l : Launch) (E : zE) (q : Nat → Nat) (z pa sl sv sp pd od : Int → Int) (pm ty om st wr : Int) (sn : Int) (h0 : rg sn) (h1 : AG z) (h2 : CZ z) : zF l E yX4_save wsX4_save 6 134 [.ref (q 0), .int (iI sn)] (wM E q z pa sl sv sp pd od pm ty om st wr) (if 0 ≤ sn ∧ sn ≤ 1 then mWholes z else -2) (wM E q z pa (if 0 ≤ sn ∧ sn ≤ 1 then saveS z sl sn else sl) (if 0 ≤ sn ∧ sn ≤ 1 then iU sv sn 1 else sv) sp pd od pm ty om st wr) := by
  have hz := h2
  have hm := h1
  refine zC_of (cc := cX4_save) (maxL := 3) (by decide) rfl (Nat.le_of_ble_eq_true rfl) ?_
  intro p e s m below meth c ls A hx hb hr hts hown hlocks hml hK hA hS hP hD hl
  have hown : s.vm.findClass RX4 = some m.cls := hown
  have hl : lv_has ls 3 [(0, .ref (q 0)), (1, .int (iI sn))] := hl
  have hinX4 : ∀ v ∈ u_ws RX4 TX4 12, v ∈ wsX4_save := by decide +kernel
  have hf_19 := hts (.fieldLink RX4 19 "GenerationNamesModel" "isSaved" "[Z") (by decide +kernel)
  have hf_16 := hts (.fieldLink RX4 16 "GenerationNamesModel" "slots" "[I") (by decide +kernel)
  have hf_7 := hts (.fieldLink RX4 7 "GenerationNamesModel" "z" "[I") (by decide +kernel)
  refine lv_iload_n hx hb dX4_save_0 rfl (lv_at hl 1 rfl) ?_
  refine lv_iconst (v := iI 0) hx hb dX4_save_1 (by decide) ?_
  refine lv_iconst (v := iI 1) hx hb dX4_save_2 (by decide) ?_
  refine z_callS0 (As := [.int (iI sn), .int (iI 0), .int (iI 1)]) (rest := []) hx hb hml hown hts hK hA hl.1 hP hD hS (c_X4_in l E  sn 0 1  (by first | omega | exact hz _ _ (by omega) | exact hz | exact ⟨by omega, by omega⟩ | exact hm) (by first | omega | exact hz _ _ (by omega) | exact hz | exact ⟨by omega, by omega⟩ | exact hm) (by first | omega | exact hz _ _ (by omega) | exact hz | exact ⟨by omega, by omega⟩ | exact hm)) gX4_save_X4_in rfl ndX4_in ⟨Nat.le_of_ble_eq_true rfl, Nat.le_of_ble_eq_true rfl⟩ rfl rfl (Nat.le_of_ble_eq_true rfl) dX4_save_3 ⟨Nat.le_of_ble_eq_true rfl, Nat.le_of_ble_eq_true rfl⟩ (fun x H locs hpost hP hD hS => ?_)
  subst hpost
  refine z_ifb_ne (tgt := 12) hx hb dX4_save_6 (by decide) (fun c_6 => ?_) (fun c_6 => ?_)
  · refine lv_aload_n hx hb dX4_save_12 rfl (lv_at hl 0 rfl) ?_
    refine va_get (D := E.1) (cl := vwCl) (ci := 4) (v := .ref (q 4)) (C := RX4) (T := TX4) (N := 12) hx hb hts hinX4 hown hK hP 0 rfl rfl 3 (by decide) hf_19 (fun _ h => h) rfl dX4_save_13 ?_
    refine lv_iload_n hx hb dX4_save_16 rfl (lv_at hl 1 rfl) ?_
    refine lv_iconst (v := iI 1) hx hb dX4_save_17 (by decide) ?_
    refine z_zast (D := E.1) (cl := vwCl) (tys := zT E) (f := sv) hx hb hK hP hD hS 4 1 rfl rfl (nar_bool1) (by omega) (by omega) (by omega) dX4_save_18 (fun H locs hP hD hS => ?_)
    have hP : va_P E.1 vwCl (wM E q z pa sl (iU sv sn 1) sp pd od pm ty om st wr) H := hP
    have hD : va_D A (wM E q z pa sl (iU sv sn 1) sp pd od pm ty om st wr) := hD
    refine lv_iconst (v := iI 0) hx hb dX4_save_19 (by decide) ?_
    refine lv_istore_n (lv' := [(2, .int (iI 0)), (0, .ref (q 0)), (1, .int (iI sn))]) hx hb dX4_save_20 rfl hl (by decide) rfl (fun ls hl => ?_)
    have hloop21 : ∀ (n : Nat) (s1 : Int → Int) (i1 : Int) (hmu : 367 - i1 = (n : Int)) (hi21_0 : s1 = itr (fun k y => iU y (sn * 367 + k) (z k)) sl (i1).toNat) (hi21_1 : 0 ≤ i1 ∧ i1 ≤ 367) (H : Heap) (locs : List Loc) (ls : Array Slot), va_P E.1 vwCl (wM E q z pa s1 (iU sv sn 1) sp pd od pm ty om st wr) H → va_D A (wM E q z pa s1 (iU sv sn 1) sp pd od pm ty om st wr) → va_S A s.heap H locs → lv_has ls 3 [(2, .int (iI i1)), (0, .ref (q 0)), (1, .int (iI sn))] → W p l e (zR 6 134) s m ([.ref (q 0), .int (iI sn)] : List Value).toArray below meth c H locs 0 0 (MQ below (zQ E A (S := Unit) (fun x _ => x = (if 0 ≤ sn ∧ sn ≤ 1 then mWholes z else -2)) (fun _ => wM E q z pa (if 0 ≤ sn ∧ sn ≤ 1 then saveS z sl sn else sl) (if 0 ≤ sn ∧ sn ≤ 1 then iU sv sn 1 else sv) sp pd od pm ty om st wr)) ([.ref (q 0), .int (iI sn)] : List Value).toArray s 0 0 A) (F0 m 21 ls []) := by
      intro n
      induction n using Nat.strongRecOn with
      | ind n ih21 =>
        intro s1 i1 hmu21 hi21_0 hi21_1 H locs ls hP hD hS hl
        refine lv_iload_n hx hb dX4_save_21 rfl (lv_at hl 0 rfl) ?_
        refine lv_sipush (v := iI 367) hx hb dX4_save_22 (by decide) ?_
        refine z_icmp_ge (tgt := 52) hx hb dX4_save_25 (by decide) ⟨by first | omega | exact (hz _ _ (by omega)).1 | exact (hz _ _ (by omega)).2, by first | omega | exact (hz _ _ (by omega)).1 | exact (hz _ _ (by omega)).2⟩ ⟨by first | omega | exact (hz _ _ (by omega)).1 | exact (hz _ _ (by omega)).2, by first | omega | exact (hz _ _ (by omega)).1 | exact (hz _ _ (by omega)).2⟩ (fun c_25 => ?_) (fun c_25 => ?_)
        · refine lv_aload_n hx hb dX4_save_52 rfl (lv_at hl 1 rfl) ?_
          refine z_callV0 (ci := 4) (qk := 0) (As := []) (rest := []) hx hb hml hown hts hK hA hl.1 hP hD hS (c_X4_wholes l E q z pa s1 (iU sv sn 1) sp pd od pm ty om st wr   (by first | omega | exact hz _ _ (by omega) | exact hz | exact ⟨by omega, by omega⟩ | exact hm) (by first | omega | exact hz _ _ (by omega) | exact hz | exact ⟨by omega, by omega⟩ | exact hm)) gX4_save_X4_wholes rfl ndX4_wholes ⟨Nat.le_of_ble_eq_true rfl, Nat.le_of_ble_eq_true rfl⟩ rfl rfl rfl rfl rfl (Nat.le_of_ble_eq_true rfl) dX4_save_53 ⟨Nat.le_of_ble_eq_true rfl, Nat.le_of_ble_eq_true rfl⟩ (fun x u H locs hpost hP hD hS => ?_)
          subst hpost
          have hP : va_P E.1 vwCl (wM E q z pa s1 (iU sv sn 1) sp pd od pm ty om st wr) H := hP
          have hD : va_D A (wM E q z pa s1 (iU sv sn 1) sp pd od pm ty om st wr) := hD
          have eqc_sl : (if 0 ≤ sn ∧ sn ≤ 1 then saveS z sl sn else sl) = s1 := by (first | rw [if_pos (by omega)] | rw [if_neg (by omega)]); all_goals (unfold saveS; rw [hi21_0, show i1 = 367 by omega])
          have eqc_sv : (if 0 ≤ sn ∧ sn ≤ 1 then iU sv sn 1 else sv) = (iU sv sn 1) := by (first | rw [if_pos (by omega)] | rw [if_neg (by omega)])
          have hP : va_P E.1 vwCl (wM E q z pa (if 0 ≤ sn ∧ sn ≤ 1 then saveS z sl sn else sl) (if 0 ≤ sn ∧ sn ≤ 1 then iU sv sn 1 else sv) sp pd od pm ty om st wr) H := by rw [eqc_sl, eqc_sv]; exact hP
          have hD : va_D A (wM E q z pa (if 0 ≤ sn ∧ sn ≤ 1 then saveS z sl sn else sl) (if 0 ≤ sn ∧ sn ≤ 1 then iU sv sn 1 else sv) sp pd od pm ty om st wr) := by rw [eqc_sl, eqc_sv]; exact hD
          exact z_iret hx hb hr hlocks hK hS () (by (repeat (first | with_reducible rfl | rw [if_pos (by omega)] | rw [if_neg (by omega)]))) hP hD dX4_save_56
        · refine lv_aload_n hx hb dX4_save_28 rfl (lv_at hl 1 rfl) ?_
          refine va_get (D := E.1) (cl := vwCl) (ci := 4) (v := .ref (q 3)) (C := RX4) (T := TX4) (N := 12) hx hb hts hinX4 hown hK hP 0 rfl rfl 2 (by decide) hf_16 (fun _ h => h) rfl dX4_save_29 ?_
          refine lv_iload_n hx hb dX4_save_32 rfl (lv_at hl 2 rfl) ?_
          refine lv_sipush (v := iI 367) hx hb dX4_save_33 (by decide) ?_
          refine z_imul hx hb dX4_save_36 ?_
          refine lv_iload_n hx hb dX4_save_37 rfl (lv_at hl 0 rfl) ?_
          refine z_iadd hx hb dX4_save_38 ?_
          refine lv_aload_n hx hb dX4_save_39 rfl (lv_at hl 1 rfl) ?_
          refine va_get (D := E.1) (cl := vwCl) (ci := 4) (v := .ref (q 1)) (C := RX4) (T := TX4) (N := 12) hx hb hts hinX4 hown hK hP 0 rfl rfl 0 (by decide) hf_7 (fun _ h => h) rfl dX4_save_40 ?_
          refine lv_iload_n hx hb dX4_save_43 rfl (lv_at hl 0 rfl) ?_
          refine z_iald (D := E.1) (cl := vwCl) (tys := zT E) (f := z) hx hb hK hP 1 0 rfl rfl (by omega) (by omega) (by omega) dX4_save_44 ?_
          refine z_iast (D := E.1) (cl := vwCl) (tys := zT E) (f := s1) hx hb hK hP hD hS 3 0 rfl rfl (by omega) (by omega) (by omega) dX4_save_45 (fun H locs hP hD hS => ?_)
          have hP : va_P E.1 vwCl (wM E q z pa (iU s1 ((sn * 367) + i1) (z i1)) (iU sv sn 1) sp pd od pm ty om st wr) H := hP
          have hD : va_D A (wM E q z pa (iU s1 ((sn * 367) + i1) (z i1)) (iU sv sn 1) sp pd od pm ty om st wr) := hD
          refine lv_iinc (v := iI (i1 + 1)) (lv' := [(2, .int (iI (i1 + 1))), (0, .ref (q 0)), (1, .int (iI sn))]) hx hb dX4_save_46 hl (k := 0) rfl (iI_add _ _) (by decide) rfl (fun ls hl => ?_)
          refine lv_goto (tgt := 21) hx hb dX4_save_49 (by decide) ?_
          exact ih21 (367 - (i1 + 1) : Int).toNat (by omega) (iU s1 ((sn * 367) + i1) (z i1)) (i1 + 1) (by omega) (by rw [itr_step (by omega), ← hi21_0]) (by omega) _ _ ls hP hD hS (lv_sub hl [0, 1, 2] rfl)
    exact hloop21 (367 - 0 : Int).toNat sl 0 (by omega) (rfl) (by omega) _ _ ls hP hD hS (lv_sub hl [0, 1, 2] rfl)
  · refine lv_bipush (v := iI (-2)) hx hb dX4_save_9 (by decide) ?_
    have eqc_sl : (if 0 ≤ sn ∧ sn ≤ 1 then saveS z sl sn else sl) = sl := by (first | rw [if_pos (by omega)] | rw [if_neg (by omega)]); all_goals (unfold saveS; rw [hi21_0, show i1 = 367 by omega])
    have eqc_sv : (if 0 ≤ sn ∧ sn ≤ 1 then iU sv sn 1 else sv) = sv := by (first | rw [if_pos (by omega)] | rw [if_neg (by omega)])
    have hP : va_P E.1 vwCl (wM E q z pa (if 0 ≤ sn ∧ sn ≤ 1 then saveS z sl sn else sl) (if 0 ≤ sn ∧ sn ≤ 1 then iU sv sn 1 else sv) sp pd od pm ty om st wr) H := by rw [eqc_sl, eqc_sv]; exact hP
    have hD : va_D A (wM E q z pa (if 0 ≤ sn ∧ sn ≤ 1 then saveS z sl sn else sl) (if 0 ≤ sn ∧ sn ≤ 1 then iU sv sn 1 else sv) sp pd od pm ty om st wr) := by rw [eqc_sl, eqc_sv]; exact hD
    exact z_iret hx hb hr hlocks hK hS () (by (repeat (first | with_reducible rfl | rw [if_pos (by omega)] | rw [if_neg (by omega)]))) hP hD dX4_save_11

theorem ndX4_restore : yX4_restore.cls = RX4 ∧ yX4_restore.cls ≠ "java/lang/invoke/MethodHandle" ∧ yX4_restore.cls ≠ "java/lang/invoke/VarHandle" ∧ (parseMethodDescriptor yX4_restore.desc).map (fun d => d.parameters.length) = some 1 := by decide +kernel
set_option maxRecDepth 100000 in
set_option maxHeartbeats 200000 in
theorem c_X4_restore (l : Launch) (E : zE) (q : Nat → Nat) (z pa sl sv sp pd od : Int → Int) (pm ty om st wr : Int) (sn : Int) (h0 : rg sn) (h1 : 0 ≤ pm ∧ pm ≤ 6) (h2 : ∀ j : Int, sv j = 0 ∨ sv j = 1) (h3 : 0 ≤ sn ∧ sn ≤ 1 → ¬ sv sn = 0 → AG (restZ z sl sn) ∧ CZ (restZ z sl sn)) : zF l E yX4_restore wsX4_restore 6 134 [.ref (q 0), .int (iI sn)] (wM E q z pa sl sv sp pd od pm ty om st wr) (if ¬ (0 ≤ sn ∧ sn ≤ 1) then -2 else if sv sn = 0 then -5 else mWholes (restZ z sl sn)) (wM E q (if 0 ≤ sn ∧ sn ≤ 1 ∧ ¬ sv sn = 0 then restZ z sl sn else z) (if 0 ≤ sn ∧ sn ≤ 1 ∧ ¬ sv sn = 0 then recP z pa pm else pa) sl sv sp pd od (if 0 ≤ sn ∧ sn ≤ 1 ∧ ¬ sv sn = 0 then recM pm else pm) ty om st wr) := by
  have hs1 := h2 sn
  refine zC_of (cc := cX4_restore) (maxL := 3) (by decide) rfl (Nat.le_of_ble_eq_true rfl) ?_
  intro p e s m below meth c ls A hx hb hr hts hown hlocks hml hK hA hS hP hD hl
  have hown : s.vm.findClass RX4 = some m.cls := hown
  have hl : lv_has ls 3 [(0, .ref (q 0)), (1, .int (iI sn))] := hl
  have hinX4 : ∀ v ∈ u_ws RX4 TX4 12, v ∈ wsX4_restore := by decide +kernel
  have hf_19 := hts (.fieldLink RX4 19 "GenerationNamesModel" "isSaved" "[Z") (by decide +kernel)
  have hf_7 := hts (.fieldLink RX4 7 "GenerationNamesModel" "z" "[I") (by decide +kernel)
  have hf_16 := hts (.fieldLink RX4 16 "GenerationNamesModel" "slots" "[I") (by decide +kernel)
  refine lv_iload_n hx hb dX4_restore_0 rfl (lv_at hl 1 rfl) ?_
  refine lv_iconst (v := iI 0) hx hb dX4_restore_1 (by decide) ?_
  refine lv_iconst (v := iI 1) hx hb dX4_restore_2 (by decide) ?_
  refine z_callS0 (As := [.int (iI sn), .int (iI 0), .int (iI 1)]) (rest := []) hx hb hml hown hts hK hA hl.1 hP hD hS (c_X4_in l E  sn 0 1  (by first | omega | exact hz _ _ (by omega) | exact hz | exact ⟨by omega, by omega⟩ | exact hag | exact hcz) (by first | omega | exact hz _ _ (by omega) | exact hz | exact ⟨by omega, by omega⟩ | exact hag | exact hcz) (by first | omega | exact hz _ _ (by omega) | exact hz | exact ⟨by omega, by omega⟩ | exact hag | exact hcz)) gX4_restore_X4_in rfl ndX4_in ⟨Nat.le_of_ble_eq_true rfl, Nat.le_of_ble_eq_true rfl⟩ rfl rfl (Nat.le_of_ble_eq_true rfl) dX4_restore_3 ⟨Nat.le_of_ble_eq_true rfl, Nat.le_of_ble_eq_true rfl⟩ (fun x H locs hpost hP hD hS => ?_)
  subst hpost
  refine z_ifb_ne (tgt := 12) hx hb dX4_restore_6 (by decide) (fun c_6 => ?_) (fun c_6 => ?_)
  · refine lv_aload_n hx hb dX4_restore_12 rfl (lv_at hl 0 rfl) ?_
    refine va_get (D := E.1) (cl := vwCl) (ci := 4) (v := .ref (q 4)) (C := RX4) (T := TX4) (N := 12) hx hb hts hinX4 hown hK hP 0 rfl rfl 3 (by decide) hf_19 (fun _ h => h) rfl dX4_restore_13 ?_
    refine lv_iload_n hx hb dX4_restore_16 rfl (lv_at hl 1 rfl) ?_
    refine z_zald (D := E.1) (cl := vwCl) (tys := zT E) (f := sv) hx hb hK hP 4 1 rfl rfl (by omega) (by omega) (by omega) dX4_restore_17 ?_
    refine z_if_ne (tgt := 24) hx hb dX4_restore_18 (by decide) ⟨by first | omega | exact (hz _ _ (by omega)).1 | exact (hz _ _ (by omega)).2, by first | omega | exact (hz _ _ (by omega)).1 | exact (hz _ _ (by omega)).2⟩ (fun c_18 => ?_) (fun c_18 => ?_)
    · refine lv_aload_n hx hb dX4_restore_24 rfl (lv_at hl 0 rfl) ?_
      refine z_callVv0 (ci := 4) (qk := 0) (As := []) (rest := []) hx hb hml hown hts hK hA hl.1 hP hD hS (c_X4_record l E q z pa sl sv sp pd od pm ty om st wr   (by first | omega | exact hz _ _ (by omega) | exact hz | exact ⟨by omega, by omega⟩ | exact hag | exact hcz)) gX4_restore_X4_record rfl ndX4_record ⟨Nat.le_of_ble_eq_true rfl, Nat.le_of_ble_eq_true rfl⟩ rfl rfl rfl rfl rfl (Nat.le_of_ble_eq_true rfl) dX4_restore_25 ⟨Nat.le_of_ble_eq_true rfl, Nat.le_of_ble_eq_true rfl⟩ (fun u H locs hpost hP hD hS => ?_)
      have hP : va_P E.1 vwCl (wM E q z (recP z pa pm) sl sv sp pd od (recM pm) ty om st wr) H := hP
      have hD : va_D A (wM E q z (recP z pa pm) sl sv sp pd od (recM pm) ty om st wr) := hD
      refine lv_iconst (v := iI 0) hx hb dX4_restore_28 (by decide) ?_
      refine lv_istore_n (lv' := [(2, .int (iI 0)), (0, .ref (q 0)), (1, .int (iI sn))]) hx hb dX4_restore_29 rfl hl (by decide) rfl (fun ls hl => ?_)
      have hloop30 : ∀ (n : Nat) (z1 : Int → Int) (i1 : Int) (hmu : 367 - i1 = (n : Int)) (hi30_0 : z1 = itr (fun k y => iU y k (sl (sn * 367 + k))) z (i1).toNat) (hi30_1 : 0 ≤ i1 ∧ i1 ≤ 367) (H : Heap) (locs : List Loc) (ls : Array Slot), va_P E.1 vwCl (wM E q z1 (recP z pa pm) sl sv sp pd od (recM pm) ty om st wr) H → va_D A (wM E q z1 (recP z pa pm) sl sv sp pd od (recM pm) ty om st wr) → va_S A s.heap H locs → lv_has ls 3 [(2, .int (iI i1)), (0, .ref (q 0)), (1, .int (iI sn))] → W p l e (zR 6 134) s m ([.ref (q 0), .int (iI sn)] : List Value).toArray below meth c H locs 0 0 (MQ below (zQ E A (S := Unit) (fun x _ => x = (if ¬ (0 ≤ sn ∧ sn ≤ 1) then -2 else if sv sn = 0 then -5 else mWholes (restZ z sl sn))) (fun _ => wM E q (if 0 ≤ sn ∧ sn ≤ 1 ∧ ¬ sv sn = 0 then restZ z sl sn else z) (if 0 ≤ sn ∧ sn ≤ 1 ∧ ¬ sv sn = 0 then recP z pa pm else pa) sl sv sp pd od (if 0 ≤ sn ∧ sn ≤ 1 ∧ ¬ sv sn = 0 then recM pm else pm) ty om st wr)) ([.ref (q 0), .int (iI sn)] : List Value).toArray s 0 0 A) (F0 m 30 ls []) := by
        intro n
        induction n using Nat.strongRecOn with
        | ind n ih30 =>
          intro z1 i1 hmu30 hi30_0 hi30_1 H locs ls hP hD hS hl
          refine lv_iload_n hx hb dX4_restore_30 rfl (lv_at hl 0 rfl) ?_
          refine lv_sipush (v := iI 367) hx hb dX4_restore_31 (by decide) ?_
          refine z_icmp_ge (tgt := 61) hx hb dX4_restore_34 (by decide) ⟨by first | omega | exact (hz _ _ (by omega)).1 | exact (hz _ _ (by omega)).2, by first | omega | exact (hz _ _ (by omega)).1 | exact (hz _ _ (by omega)).2⟩ ⟨by first | omega | exact (hz _ _ (by omega)).1 | exact (hz _ _ (by omega)).2, by first | omega | exact (hz _ _ (by omega)).1 | exact (hz _ _ (by omega)).2⟩ (fun c_34 => ?_) (fun c_34 => ?_)
          · refine lv_aload_n hx hb dX4_restore_61 rfl (lv_at hl 1 rfl) ?_
            have hzr : z1 = restZ z sl sn := by unfold restZ; rw [hi30_0, show i1 = 367 by omega]
            have hag : AG z1 := by rw [hzr]; exact (h3 (by omega) (by omega)).1
            have hcz : CZ z1 := by rw [hzr]; exact (h3 (by omega) (by omega)).2
            refine z_callV0 (ci := 4) (qk := 0) (As := []) (rest := []) hx hb hml hown hts hK hA hl.1 hP hD hS (c_X4_wholes l E q z1 (recP z pa pm) sl sv sp pd od (recM pm) ty om st wr   (by first | omega | exact hz _ _ (by omega) | exact hz | exact ⟨by omega, by omega⟩ | exact hag | exact hcz) (by first | omega | exact hz _ _ (by omega) | exact hz | exact ⟨by omega, by omega⟩ | exact hag | exact hcz)) gX4_restore_X4_wholes rfl ndX4_wholes ⟨Nat.le_of_ble_eq_true rfl, Nat.le_of_ble_eq_true rfl⟩ rfl rfl rfl rfl rfl (Nat.le_of_ble_eq_true rfl) dX4_restore_62 ⟨Nat.le_of_ble_eq_true rfl, Nat.le_of_ble_eq_true rfl⟩ (fun x u H locs hpost hP hD hS => ?_)
            subst hpost
            have hP : va_P E.1 vwCl (wM E q z1 (recP z pa pm) sl sv sp pd od (recM pm) ty om st wr) H := hP
            have hD : va_D A (wM E q z1 (recP z pa pm) sl sv sp pd od (recM pm) ty om st wr) := hD
            have eqc_z : (if 0 ≤ sn ∧ sn ≤ 1 ∧ ¬ sv sn = 0 then restZ z sl sn else z) = z1 := by (first | rw [if_pos (by omega)] | rw [if_neg (by omega)]); all_goals (rw [hzr])
            have eqc_pa : (if 0 ≤ sn ∧ sn ≤ 1 ∧ ¬ sv sn = 0 then recP z pa pm else pa) = recP z pa pm := by (first | rw [if_pos (by omega)] | rw [if_neg (by omega)])
            have eqc_pm : (if 0 ≤ sn ∧ sn ≤ 1 ∧ ¬ sv sn = 0 then recM pm else pm) = recM pm := by (first | rw [if_pos (by omega)] | rw [if_neg (by omega)])
            have hP : va_P E.1 vwCl (wM E q (if 0 ≤ sn ∧ sn ≤ 1 ∧ ¬ sv sn = 0 then restZ z sl sn else z) (if 0 ≤ sn ∧ sn ≤ 1 ∧ ¬ sv sn = 0 then recP z pa pm else pa) sl sv sp pd od (if 0 ≤ sn ∧ sn ≤ 1 ∧ ¬ sv sn = 0 then recM pm else pm) ty om st wr) H := by rw [eqc_z, eqc_pa, eqc_pm]; exact hP
            have hD : va_D A (wM E q (if 0 ≤ sn ∧ sn ≤ 1 ∧ ¬ sv sn = 0 then restZ z sl sn else z) (if 0 ≤ sn ∧ sn ≤ 1 ∧ ¬ sv sn = 0 then recP z pa pm else pa) sl sv sp pd od (if 0 ≤ sn ∧ sn ≤ 1 ∧ ¬ sv sn = 0 then recM pm else pm) ty om st wr) := by rw [eqc_z, eqc_pa, eqc_pm]; exact hD
            exact z_iret hx hb hr hlocks hK hS () (by first | (rw [if_pos (by omega)]) | (rw [if_neg (by omega), if_pos (by omega)]) | (rw [if_neg (by omega), if_neg (by omega)]; rw [hzr])) hP hD dX4_restore_65
          · refine lv_aload_n hx hb dX4_restore_37 rfl (lv_at hl 1 rfl) ?_
            refine va_get (D := E.1) (cl := vwCl) (ci := 4) (v := .ref (q 1)) (C := RX4) (T := TX4) (N := 12) hx hb hts hinX4 hown hK hP 0 rfl rfl 0 (by decide) hf_7 (fun _ h => h) rfl dX4_restore_38 ?_
            refine lv_iload_n hx hb dX4_restore_41 rfl (lv_at hl 0 rfl) ?_
            refine lv_aload_n hx hb dX4_restore_42 rfl (lv_at hl 1 rfl) ?_
            refine va_get (D := E.1) (cl := vwCl) (ci := 4) (v := .ref (q 3)) (C := RX4) (T := TX4) (N := 12) hx hb hts hinX4 hown hK hP 0 rfl rfl 2 (by decide) hf_16 (fun _ h => h) rfl dX4_restore_43 ?_
            refine lv_iload_n hx hb dX4_restore_46 rfl (lv_at hl 2 rfl) ?_
            refine lv_sipush (v := iI 367) hx hb dX4_restore_47 (by decide) ?_
            refine z_imul hx hb dX4_restore_50 ?_
            refine lv_iload_n hx hb dX4_restore_51 rfl (lv_at hl 0 rfl) ?_
            refine z_iadd hx hb dX4_restore_52 ?_
            refine z_iald (D := E.1) (cl := vwCl) (tys := zT E) (f := sl) hx hb hK hP 3 0 rfl rfl (by omega) (by omega) (by omega) dX4_restore_53 ?_
            refine z_iast (D := E.1) (cl := vwCl) (tys := zT E) (f := z1) hx hb hK hP hD hS 1 0 rfl rfl (by omega) (by omega) (by omega) dX4_restore_54 (fun H locs hP hD hS => ?_)
            have hP : va_P E.1 vwCl (wM E q (iU z1 i1 (sl ((sn * 367) + i1))) (recP z pa pm) sl sv sp pd od (recM pm) ty om st wr) H := hP
            have hD : va_D A (wM E q (iU z1 i1 (sl ((sn * 367) + i1))) (recP z pa pm) sl sv sp pd od (recM pm) ty om st wr) := hD
            refine lv_iinc (v := iI (i1 + 1)) (lv' := [(2, .int (iI (i1 + 1))), (0, .ref (q 0)), (1, .int (iI sn))]) hx hb dX4_restore_55 hl (k := 0) rfl (iI_add _ _) (by decide) rfl (fun ls hl => ?_)
            refine lv_goto (tgt := 30) hx hb dX4_restore_58 (by decide) ?_
            exact ih30 (367 - (i1 + 1) : Int).toNat (by omega) (iU z1 i1 (sl ((sn * 367) + i1))) (i1 + 1) (by omega) (by rw [itr_step (by omega), ← hi30_0]) (by omega) _ _ ls hP hD hS (lv_sub hl [0, 1, 2] rfl)
      exact hloop30 (367 - 0 : Int).toNat z 0 (by omega) (rfl) (by omega) _ _ ls hP hD hS (lv_sub hl [0, 1, 2] rfl)
    · refine lv_bipush (v := iI (-5)) hx hb dX4_restore_21 (by decide) ?_
      have eqc_z : (if 0 ≤ sn ∧ sn ≤ 1 ∧ ¬ sv sn = 0 then restZ z sl sn else z) = z := by (first | rw [if_pos (by omega)] | rw [if_neg (by omega)]); all_goals (rw [hzr])
      have eqc_pa : (if 0 ≤ sn ∧ sn ≤ 1 ∧ ¬ sv sn = 0 then recP z pa pm else pa) = pa := by (first | rw [if_pos (by omega)] | rw [if_neg (by omega)])
      have eqc_pm : (if 0 ≤ sn ∧ sn ≤ 1 ∧ ¬ sv sn = 0 then recM pm else pm) = pm := by (first | rw [if_pos (by omega)] | rw [if_neg (by omega)])
      have hP : va_P E.1 vwCl (wM E q (if 0 ≤ sn ∧ sn ≤ 1 ∧ ¬ sv sn = 0 then restZ z sl sn else z) (if 0 ≤ sn ∧ sn ≤ 1 ∧ ¬ sv sn = 0 then recP z pa pm else pa) sl sv sp pd od (if 0 ≤ sn ∧ sn ≤ 1 ∧ ¬ sv sn = 0 then recM pm else pm) ty om st wr) H := by rw [eqc_z, eqc_pa, eqc_pm]; exact hP
      have hD : va_D A (wM E q (if 0 ≤ sn ∧ sn ≤ 1 ∧ ¬ sv sn = 0 then restZ z sl sn else z) (if 0 ≤ sn ∧ sn ≤ 1 ∧ ¬ sv sn = 0 then recP z pa pm else pa) sl sv sp pd od (if 0 ≤ sn ∧ sn ≤ 1 ∧ ¬ sv sn = 0 then recM pm else pm) ty om st wr) := by rw [eqc_z, eqc_pa, eqc_pm]; exact hD
      exact z_iret hx hb hr hlocks hK hS () (by first | (rw [if_pos (by omega)]) | (rw [if_neg (by omega), if_pos (by omega)]) | (rw [if_neg (by omega), if_neg (by omega)]; rw [hzr])) hP hD dX4_restore_23
  · refine lv_bipush (v := iI (-2)) hx hb dX4_restore_9 (by decide) ?_
    have eqc_z : (if 0 ≤ sn ∧ sn ≤ 1 ∧ ¬ sv sn = 0 then restZ z sl sn else z) = z := by (first | rw [if_pos (by omega)] | rw [if_neg (by omega)]); all_goals (rw [hzr])
    have eqc_pa : (if 0 ≤ sn ∧ sn ≤ 1 ∧ ¬ sv sn = 0 then recP z pa pm else pa) = pa := by (first | rw [if_pos (by omega)] | rw [if_neg (by omega)])
    have eqc_pm : (if 0 ≤ sn ∧ sn ≤ 1 ∧ ¬ sv sn = 0 then recM pm else pm) = pm := by (first | rw [if_pos (by omega)] | rw [if_neg (by omega)])
    have hP : va_P E.1 vwCl (wM E q (if 0 ≤ sn ∧ sn ≤ 1 ∧ ¬ sv sn = 0 then restZ z sl sn else z) (if 0 ≤ sn ∧ sn ≤ 1 ∧ ¬ sv sn = 0 then recP z pa pm else pa) sl sv sp pd od (if 0 ≤ sn ∧ sn ≤ 1 ∧ ¬ sv sn = 0 then recM pm else pm) ty om st wr) H := by rw [eqc_z, eqc_pa, eqc_pm]; exact hP
    have hD : va_D A (wM E q (if 0 ≤ sn ∧ sn ≤ 1 ∧ ¬ sv sn = 0 then restZ z sl sn else z) (if 0 ≤ sn ∧ sn ≤ 1 ∧ ¬ sv sn = 0 then recP z pa pm else pa) sl sv sp pd od (if 0 ≤ sn ∧ sn ≤ 1 ∧ ¬ sv sn = 0 then recM pm else pm) ty om st wr) := by rw [eqc_z, eqc_pa, eqc_pm]; exact hD
    exact z_iret hx hb hr hlocks hK hS () (by first | (rw [if_pos (by omega)]) | (rw [if_neg (by omega), if_pos (by omega)]) | (rw [if_neg (by omega), if_neg (by omega)]; rw [hzr])) hP hD dX4_restore_11

theorem ndX4_keep : yX4_keep.cls = RX4 ∧ yX4_keep.cls ≠ "java/lang/invoke/MethodHandle" ∧ yX4_keep.cls ≠ "java/lang/invoke/VarHandle" ∧ (parseMethodDescriptor yX4_keep.desc).map (fun d => d.parameters.length) = some 2 := by decide +kernel
set_option maxRecDepth 100000 in
set_option maxHeartbeats 200000 in
theorem c_X4_keep (l : Launch) (E : zE) (q : Nat → Nat) (z pa sl sv sp pd od : Int → Int) (pm ty om st wr : Int) (g : Int) (k : Int) (h0 : rg g) (h1 : rg k) (h2 : 0 ≤ pm ∧ pm ≤ 6) (h3 : MI z) : zF l E yX4_keep wsX4_keep 5 109 [.ref (q 0), .int (iI g), .int (iI k)] (wM E q z pa sl sv sp pd od pm ty om st wr) (if ¬ (0 ≤ g ∧ g ≤ 5) then -1 else if ¬ (1 ≤ k ∧ k ≤ 8) then -2 else zg z g 0) (wM E q (if 0 ≤ g ∧ g ≤ 5 ∧ 1 ≤ k ∧ k ≤ 8 then mRoll (zs z g 0 k) g else z) (if 0 ≤ g ∧ g ≤ 5 ∧ 1 ≤ k ∧ k ≤ 8 then recP z pa pm else pa) sl sv sp pd od (if 0 ≤ g ∧ g ≤ 5 ∧ 1 ≤ k ∧ k ≤ 8 then recM pm else pm) ty om st wr) := by
  obtain ⟨hz, hmi, hb1, hb2, hb6⟩ := id h3
  have hm : AG z := fun g a b => (hmi g a b).1
  refine zC_of (cc := cX4_keep) (maxL := 4) (by decide) rfl (Nat.le_of_ble_eq_true rfl) ?_
  intro p e s m below meth c ls A hx hb hr hts hown hlocks hml hK hA hS hP hD hl
  have hown : s.vm.findClass RX4 = some m.cls := hown
  have hl : lv_has ls 4 [(0, .ref (q 0)), (1, .int (iI g)), (2, .int (iI k))] := hl
  refine lv_iload_n hx hb dX4_keep_0 rfl (lv_at hl 1 rfl) ?_
  refine z_callS0 (As := [.int (iI g)]) (rest := []) hx hb hml hown hts hK hA hl.1 hP hD hS (c_X4_isGroup l E  g  (by first | omega | exact hz _ _ (by omega) | exact hz | exact ⟨by omega, by omega⟩ | exact hm | exact hcz | exact ⟨by omega, by omega⟩)) gX4_keep_X4_isGroup rfl ndX4_isGroup ⟨Nat.le_of_ble_eq_true rfl, Nat.le_of_ble_eq_true rfl⟩ rfl rfl (Nat.le_of_ble_eq_true rfl) dX4_keep_1 ⟨Nat.le_of_ble_eq_true rfl, Nat.le_of_ble_eq_true rfl⟩ (fun x H locs hpost hP hD hS => ?_)
  subst hpost
  refine z_ifb_ne (tgt := 9) hx hb dX4_keep_4 (by decide) (fun c_4 => ?_) (fun c_4 => ?_)
  · refine lv_iload_n hx hb dX4_keep_9 rfl (lv_at hl 2 rfl) ?_
    refine lv_iconst (v := iI 1) hx hb dX4_keep_10 (by decide) ?_
    refine lv_bipush (v := iI 8) hx hb dX4_keep_11 (by decide) ?_
    refine z_callS0 (As := [.int (iI k), .int (iI 1), .int (iI 8)]) (rest := []) hx hb hml hown hts hK hA hl.1 hP hD hS (c_X4_in l E  k 1 8  (by first | omega | exact hz _ _ (by omega) | exact hz | exact ⟨by omega, by omega⟩ | exact hm | exact hcz | exact ⟨by omega, by omega⟩) (by first | omega | exact hz _ _ (by omega) | exact hz | exact ⟨by omega, by omega⟩ | exact hm | exact hcz | exact ⟨by omega, by omega⟩) (by first | omega | exact hz _ _ (by omega) | exact hz | exact ⟨by omega, by omega⟩ | exact hm | exact hcz | exact ⟨by omega, by omega⟩)) gX4_keep_X4_in rfl ndX4_in ⟨Nat.le_of_ble_eq_true rfl, Nat.le_of_ble_eq_true rfl⟩ rfl rfl (Nat.le_of_ble_eq_true rfl) dX4_keep_13 ⟨Nat.le_of_ble_eq_true rfl, Nat.le_of_ble_eq_true rfl⟩ (fun x H locs hpost hP hD hS => ?_)
    subst hpost
    refine z_ifb_ne (tgt := 22) hx hb dX4_keep_16 (by decide) (fun c_16 => ?_) (fun c_16 => ?_)
    · refine lv_aload_n hx hb dX4_keep_22 rfl (lv_at hl 0 rfl) ?_
      have hgi := hmi g (by omega) (by omega)
      refine z_callVv0 (ci := 4) (qk := 0) (As := []) (rest := []) hx hb hml hown hts hK hA hl.1 hP hD hS (c_X4_record l E q z pa sl sv sp pd od pm ty om st wr   (by first | omega | exact hz _ _ (by omega) | exact hz | exact ⟨by omega, by omega⟩ | exact hm | exact hcz | exact ⟨by omega, by omega⟩)) gX4_keep_X4_record rfl ndX4_record ⟨Nat.le_of_ble_eq_true rfl, Nat.le_of_ble_eq_true rfl⟩ rfl rfl rfl rfl rfl (Nat.le_of_ble_eq_true rfl) dX4_keep_23 ⟨Nat.le_of_ble_eq_true rfl, Nat.le_of_ble_eq_true rfl⟩ (fun u H locs hpost hP hD hS => ?_)
      have hP : va_P E.1 vwCl (wM E q z (recP z pa pm) sl sv sp pd od (recM pm) ty om st wr) H := hP
      have hD : va_D A (wM E q z (recP z pa pm) sl sv sp pd od (recM pm) ty om st wr) := hD
      refine lv_aload_n hx hb dX4_keep_26 rfl (lv_at hl 0 rfl) ?_
      refine lv_iload_n hx hb dX4_keep_27 rfl (lv_at hl 1 rfl) ?_
      refine lv_iconst (v := iI 0) hx hb dX4_keep_28 (by decide) ?_
      refine z_callV0 (ci := 4) (qk := 0) (As := [.int (iI g), .int (iI 0)]) (rest := []) hx hb hml hown hts hK hA hl.1 hP hD hS (c_X4_of l E q z (recP z pa pm) sl sv sp pd od (recM pm) ty om st wr g 0  (by first | omega | exact hz _ _ (by omega) | exact hz | exact ⟨by omega, by omega⟩ | exact hm | exact hcz | exact ⟨by omega, by omega⟩) (by first | omega | exact hz _ _ (by omega) | exact hz | exact ⟨by omega, by omega⟩ | exact hm | exact hcz | exact ⟨by omega, by omega⟩)) gX4_keep_X4_of rfl ndX4_of ⟨Nat.le_of_ble_eq_true rfl, Nat.le_of_ble_eq_true rfl⟩ rfl rfl rfl rfl rfl (Nat.le_of_ble_eq_true rfl) dX4_keep_29 ⟨Nat.le_of_ble_eq_true rfl, Nat.le_of_ble_eq_true rfl⟩ (fun x u H locs hpost hP hD hS => ?_)
      subst hpost
      have hP : va_P E.1 vwCl (wM E q z (recP z pa pm) sl sv sp pd od (recM pm) ty om st wr) H := hP
      have hD : va_D A (wM E q z (recP z pa pm) sl sv sp pd od (recM pm) ty om st wr) := hD
      refine lv_istore_n (lv' := [(3, .int (iI (zg z g 0))), (0, .ref (q 0)), (1, .int (iI g)), (2, .int (iI k))]) hx hb dX4_keep_32 rfl hl (by decide) rfl (fun ls hl => ?_)
      refine lv_aload_n hx hb dX4_keep_33 rfl (lv_at hl 1 rfl) ?_
      refine lv_iload_n hx hb dX4_keep_34 rfl (lv_at hl 2 rfl) ?_
      refine lv_iconst (v := iI 0) hx hb dX4_keep_35 (by decide) ?_
      refine lv_iload_n hx hb dX4_keep_36 rfl (lv_at hl 3 rfl) ?_
      refine z_callVv0 (ci := 4) (qk := 0) (As := [.int (iI g), .int (iI 0), .int (iI k)]) (rest := []) hx hb hml hown hts hK hA hl.1 hP hD hS (c_X4_lay l E q z (recP z pa pm) sl sv sp pd od (recM pm) ty om st wr g 0 k  (by first | omega | exact hz _ _ (by omega) | exact hz | exact ⟨by omega, by omega⟩ | exact hm | exact hcz | exact ⟨by omega, by omega⟩) (by first | omega | exact hz _ _ (by omega) | exact hz | exact ⟨by omega, by omega⟩ | exact hm | exact hcz | exact ⟨by omega, by omega⟩)) gX4_keep_X4_lay rfl ndX4_lay ⟨Nat.le_of_ble_eq_true rfl, Nat.le_of_ble_eq_true rfl⟩ rfl rfl rfl rfl rfl (Nat.le_of_ble_eq_true rfl) dX4_keep_37 ⟨Nat.le_of_ble_eq_true rfl, Nat.le_of_ble_eq_true rfl⟩ (fun u H locs hpost hP hD hS => ?_)
      have hP : va_P E.1 vwCl (wM E q (zs z g 0 k) (recP z pa pm) sl sv sp pd od (recM pm) ty om st wr) H := hP
      have hD : va_D A (wM E q (zs z g 0 k) (recP z pa pm) sl sv sp pd od (recM pm) ty om st wr) := hD
      refine lv_aload_n hx hb dX4_keep_40 rfl (lv_at hl 1 rfl) ?_
      refine lv_iload_n hx hb dX4_keep_41 rfl (lv_at hl 2 rfl) ?_
      have e1 : zg (zs z g 0 k) g 1 = zg z g 1 := zg_zs_ne (by omega)
      have e0 : zg (zs z g 0 k) g 0 = k := zg_zs _ _ _ _
      have hcz : CZ (zs z g 0 k) := CZ_zs hz (by omega) (by omega) (fun _ => ⟨by omega, by omega⟩)
      refine z_callVv0 (ci := 4) (qk := 0) (As := [.int (iI g)]) (rest := []) hx hb hml hown hts hK hA hl.1 hP hD hS (c_X4_roll l E q (zs z g 0 k) (recP z pa pm) sl sv sp pd od (recM pm) ty om st wr g  (by first | omega | exact hz _ _ (by omega) | exact hz | exact ⟨by omega, by omega⟩ | exact hm | exact hcz | exact ⟨by omega, by omega⟩) (by first | omega | exact hz _ _ (by omega) | exact hz | exact ⟨by omega, by omega⟩ | exact hm | exact hcz | exact ⟨by omega, by omega⟩) (by first | omega | exact hz _ _ (by omega) | exact hz | exact ⟨by omega, by omega⟩ | exact hm | exact hcz | exact ⟨by omega, by omega⟩) (by first | omega | exact hz _ _ (by omega) | exact hz | exact ⟨by omega, by omega⟩ | exact hm | exact hcz | exact ⟨by omega, by omega⟩)) gX4_keep_X4_roll rfl ndX4_roll ⟨Nat.le_of_ble_eq_true rfl, Nat.le_of_ble_eq_true rfl⟩ rfl rfl rfl rfl rfl (Nat.le_of_ble_eq_true rfl) dX4_keep_42 ⟨Nat.le_of_ble_eq_true rfl, Nat.le_of_ble_eq_true rfl⟩ (fun u H locs hpost hP hD hS => ?_)
      have hP : va_P E.1 vwCl (wM E q (mRoll (zs z g 0 k) g) (recP z pa pm) sl sv sp pd od (recM pm) ty om st wr) H := hP
      have hD : va_D A (wM E q (mRoll (zs z g 0 k) g) (recP z pa pm) sl sv sp pd od (recM pm) ty om st wr) := hD
      refine lv_iload_n hx hb dX4_keep_45 rfl (lv_at hl 0 rfl) ?_
      have eqc_z : (if 0 ≤ g ∧ g ≤ 5 ∧ 1 ≤ k ∧ k ≤ 8 then mRoll (zs z g 0 k) g else z) = mRoll (zs z g 0 k) g := by (first | rw [if_pos (by omega)] | rw [if_neg (by omega)])
      have eqc_pa : (if 0 ≤ g ∧ g ≤ 5 ∧ 1 ≤ k ∧ k ≤ 8 then recP z pa pm else pa) = recP z pa pm := by (first | rw [if_pos (by omega)] | rw [if_neg (by omega)])
      have eqc_pm : (if 0 ≤ g ∧ g ≤ 5 ∧ 1 ≤ k ∧ k ≤ 8 then recM pm else pm) = recM pm := by (first | rw [if_pos (by omega)] | rw [if_neg (by omega)])
      have hP : va_P E.1 vwCl (wM E q (if 0 ≤ g ∧ g ≤ 5 ∧ 1 ≤ k ∧ k ≤ 8 then mRoll (zs z g 0 k) g else z) (if 0 ≤ g ∧ g ≤ 5 ∧ 1 ≤ k ∧ k ≤ 8 then recP z pa pm else pa) sl sv sp pd od (if 0 ≤ g ∧ g ≤ 5 ∧ 1 ≤ k ∧ k ≤ 8 then recM pm else pm) ty om st wr) H := by rw [eqc_z, eqc_pa, eqc_pm]; exact hP
      have hD : va_D A (wM E q (if 0 ≤ g ∧ g ≤ 5 ∧ 1 ≤ k ∧ k ≤ 8 then mRoll (zs z g 0 k) g else z) (if 0 ≤ g ∧ g ≤ 5 ∧ 1 ≤ k ∧ k ≤ 8 then recP z pa pm else pa) sl sv sp pd od (if 0 ≤ g ∧ g ≤ 5 ∧ 1 ≤ k ∧ k ≤ 8 then recM pm else pm) ty om st wr) := by rw [eqc_z, eqc_pa, eqc_pm]; exact hD
      exact z_iret hx hb hr hlocks hK hS () (by (repeat (first | with_reducible rfl | rw [if_pos (by omega)] | rw [if_neg (by omega)]))) hP hD dX4_keep_46
    · refine lv_bipush (v := iI (-2)) hx hb dX4_keep_19 (by decide) ?_
      have eqc_z : (if 0 ≤ g ∧ g ≤ 5 ∧ 1 ≤ k ∧ k ≤ 8 then mRoll (zs z g 0 k) g else z) = z := by (first | rw [if_pos (by omega)] | rw [if_neg (by omega)])
      have eqc_pa : (if 0 ≤ g ∧ g ≤ 5 ∧ 1 ≤ k ∧ k ≤ 8 then recP z pa pm else pa) = pa := by (first | rw [if_pos (by omega)] | rw [if_neg (by omega)])
      have eqc_pm : (if 0 ≤ g ∧ g ≤ 5 ∧ 1 ≤ k ∧ k ≤ 8 then recM pm else pm) = pm := by (first | rw [if_pos (by omega)] | rw [if_neg (by omega)])
      have hP : va_P E.1 vwCl (wM E q (if 0 ≤ g ∧ g ≤ 5 ∧ 1 ≤ k ∧ k ≤ 8 then mRoll (zs z g 0 k) g else z) (if 0 ≤ g ∧ g ≤ 5 ∧ 1 ≤ k ∧ k ≤ 8 then recP z pa pm else pa) sl sv sp pd od (if 0 ≤ g ∧ g ≤ 5 ∧ 1 ≤ k ∧ k ≤ 8 then recM pm else pm) ty om st wr) H := by rw [eqc_z, eqc_pa, eqc_pm]; exact hP
      have hD : va_D A (wM E q (if 0 ≤ g ∧ g ≤ 5 ∧ 1 ≤ k ∧ k ≤ 8 then mRoll (zs z g 0 k) g else z) (if 0 ≤ g ∧ g ≤ 5 ∧ 1 ≤ k ∧ k ≤ 8 then recP z pa pm else pa) sl sv sp pd od (if 0 ≤ g ∧ g ≤ 5 ∧ 1 ≤ k ∧ k ≤ 8 then recM pm else pm) ty om st wr) := by rw [eqc_z, eqc_pa, eqc_pm]; exact hD
      exact z_iret hx hb hr hlocks hK hS () (by (repeat (first | with_reducible rfl | rw [if_pos (by omega)] | rw [if_neg (by omega)]))) hP hD dX4_keep_21
  · refine lv_iconst (v := iI (-1)) hx hb dX4_keep_7 (by decide) ?_
    have eqc_z : (if 0 ≤ g ∧ g ≤ 5 ∧ 1 ≤ k ∧ k ≤ 8 then mRoll (zs z g 0 k) g else z) = z := by (first | rw [if_pos (by omega)] | rw [if_neg (by omega)])
    have eqc_pa : (if 0 ≤ g ∧ g ≤ 5 ∧ 1 ≤ k ∧ k ≤ 8 then recP z pa pm else pa) = pa := by (first | rw [if_pos (by omega)] | rw [if_neg (by omega)])
    have eqc_pm : (if 0 ≤ g ∧ g ≤ 5 ∧ 1 ≤ k ∧ k ≤ 8 then recM pm else pm) = pm := by (first | rw [if_pos (by omega)] | rw [if_neg (by omega)])
    have hP : va_P E.1 vwCl (wM E q (if 0 ≤ g ∧ g ≤ 5 ∧ 1 ≤ k ∧ k ≤ 8 then mRoll (zs z g 0 k) g else z) (if 0 ≤ g ∧ g ≤ 5 ∧ 1 ≤ k ∧ k ≤ 8 then recP z pa pm else pa) sl sv sp pd od (if 0 ≤ g ∧ g ≤ 5 ∧ 1 ≤ k ∧ k ≤ 8 then recM pm else pm) ty om st wr) H := by rw [eqc_z, eqc_pa, eqc_pm]; exact hP
    have hD : va_D A (wM E q (if 0 ≤ g ∧ g ≤ 5 ∧ 1 ≤ k ∧ k ≤ 8 then mRoll (zs z g 0 k) g else z) (if 0 ≤ g ∧ g ≤ 5 ∧ 1 ≤ k ∧ k ≤ 8 then recP z pa pm else pa) sl sv sp pd od (if 0 ≤ g ∧ g ≤ 5 ∧ 1 ≤ k ∧ k ≤ 8 then recM pm else pm) ty om st wr) := by rw [eqc_z, eqc_pa, eqc_pm]; exact hD
    exact z_iret hx hb hr hlocks hK hS () (by (repeat (first | with_reducible rfl | rw [if_pos (by omega)] | rw [if_neg (by omega)]))) hP hD dX4_keep_8

theorem ndX4_write : yX4_write.cls = RX4 ∧ yX4_write.cls ≠ "java/lang/invoke/MethodHandle" ∧ yX4_write.cls ≠ "java/lang/invoke/VarHandle" ∧ (parseMethodDescriptor yX4_write.desc).map (fun d => d.parameters.length) = some 3 := by decide +kernel
set_option maxRecDepth 100000 in
set_option maxHeartbeats 200000 in
theorem c_X4_write (l : Launch) (E : zE) (q : Nat → Nat) (z pa sl sv sp pd od : Int → Int) (pm ty om st wr : Int) (g : Int) (n : Int) (d : Int) (h0 : rg g) (h1 : rg n) (h2 : rg d) (h3 : 0 ≤ pm ∧ pm ≤ 6) (h4 : MI z) : zF l E yX4_write wsX4_write 7 157 [.ref (q 0), .int (iI g), .int (iI n), .int (iI d)] (wM E q z pa sl sv sp pd od pm ty om st wr) (if ¬ (0 ≤ g ∧ g ≤ 5) then -1 else if ¬ (-7 ≤ n ∧ n ≤ 1 ∧ 0 ≤ d ∧ d ≤ 9999) then -2 else if ¬ ((n = 1 ∧ (¬ z 1 = 1 ∨ zg z g 5 = 0)) ∨ ¬ mTold z g n = -6) then -5 else mWriteR z g n d) (wM E q (if 0 ≤ g ∧ g ≤ 5 ∧ -7 ≤ n ∧ n ≤ 1 ∧ 0 ≤ d ∧ d ≤ 9999 ∧ ((n = 1 ∧ (¬ z 1 = 1 ∨ zg z g 5 = 0)) ∨ ¬ mTold z g n = -6) then mWrite z g n d else z) (if 0 ≤ g ∧ g ≤ 5 ∧ -7 ≤ n ∧ n ≤ 1 ∧ 0 ≤ d ∧ d ≤ 9999 ∧ ((n = 1 ∧ (¬ z 1 = 1 ∨ zg z g 5 = 0)) ∨ ¬ mTold z g n = -6) then recP z pa pm else pa) sl sv sp pd od (if 0 ≤ g ∧ g ≤ 5 ∧ -7 ≤ n ∧ n ≤ 1 ∧ 0 ≤ d ∧ d ≤ 9999 ∧ ((n = 1 ∧ (¬ z 1 = 1 ∨ zg z g 5 = 0)) ∨ ¬ mTold z g n = -6) then recM pm else pm) ty om st wr) := by
  obtain ⟨hz, hmi, hb1, hb2, hb6⟩ := id h4
  have hm : AG z := fun g a b => (hmi g a b).1
  refine zC_of (cc := cX4_write) (maxL := 4) (by decide) rfl (Nat.le_of_ble_eq_true rfl) ?_
  intro p e s m below meth c ls A hx hb hr hts hown hlocks hml hK hA hS hP hD hl
  have hown : s.vm.findClass RX4 = some m.cls := hown
  have hl : lv_has ls 4 [(0, .ref (q 0)), (1, .int (iI g)), (2, .int (iI n)), (3, .int (iI d))] := hl
  refine lv_iload_n hx hb dX4_write_0 rfl (lv_at hl 1 rfl) ?_
  refine z_callS0 (As := [.int (iI g)]) (rest := []) hx hb hml hown hts hK hA hl.1 hP hD hS (c_X4_isGroup l E  g  (by first | omega | exact hz _ _ (by omega) | exact hz | exact ⟨by omega, by omega⟩ | exact hm | exact hcz | exact ⟨by omega, by omega⟩)) gX4_write_X4_isGroup rfl ndX4_isGroup ⟨Nat.le_of_ble_eq_true rfl, Nat.le_of_ble_eq_true rfl⟩ rfl rfl (Nat.le_of_ble_eq_true rfl) dX4_write_1 ⟨Nat.le_of_ble_eq_true rfl, Nat.le_of_ble_eq_true rfl⟩ (fun x H locs hpost hP hD hS => ?_)
  subst hpost
  refine z_ifb_ne (tgt := 9) hx hb dX4_write_4 (by decide) (fun c_4 => ?_) (fun c_4 => ?_)
  · refine lv_iload_n hx hb dX4_write_9 rfl (lv_at hl 2 rfl) ?_
    refine z_callS0 (As := [.int (iI n)]) (rest := []) hx hb hml hown hts hK hA hl.1 hP hD hS (c_X4_isName l E  n  (by first | omega | exact hz _ _ (by omega) | exact hz | exact ⟨by omega, by omega⟩ | exact hm | exact hcz | exact ⟨by omega, by omega⟩)) gX4_write_X4_isName rfl ndX4_isName ⟨Nat.le_of_ble_eq_true rfl, Nat.le_of_ble_eq_true rfl⟩ rfl rfl (Nat.le_of_ble_eq_true rfl) dX4_write_10 ⟨Nat.le_of_ble_eq_true rfl, Nat.le_of_ble_eq_true rfl⟩ (fun x H locs hpost hP hD hS => ?_)
    subst hpost
    refine z_ifb_eq (tgt := 27) hx hb dX4_write_13 (by decide) (fun c_13 => ?_) (fun c_13 => ?_)
    · refine lv_bipush (v := iI (-2)) hx hb dX4_write_27 (by decide) ?_
      have eqc_z : (if 0 ≤ g ∧ g ≤ 5 ∧ -7 ≤ n ∧ n ≤ 1 ∧ 0 ≤ d ∧ d ≤ 9999 ∧ ((n = 1 ∧ (¬ z 1 = 1 ∨ zg z g 5 = 0)) ∨ ¬ mTold z g n = -6) then mWrite z g n d else z) = z := by (first | rw [if_pos (by omega)] | rw [if_neg (by omega)])
      have eqc_pa : (if 0 ≤ g ∧ g ≤ 5 ∧ -7 ≤ n ∧ n ≤ 1 ∧ 0 ≤ d ∧ d ≤ 9999 ∧ ((n = 1 ∧ (¬ z 1 = 1 ∨ zg z g 5 = 0)) ∨ ¬ mTold z g n = -6) then recP z pa pm else pa) = pa := by (first | rw [if_pos (by omega)] | rw [if_neg (by omega)])
      have eqc_pm : (if 0 ≤ g ∧ g ≤ 5 ∧ -7 ≤ n ∧ n ≤ 1 ∧ 0 ≤ d ∧ d ≤ 9999 ∧ ((n = 1 ∧ (¬ z 1 = 1 ∨ zg z g 5 = 0)) ∨ ¬ mTold z g n = -6) then recM pm else pm) = pm := by (first | rw [if_pos (by omega)] | rw [if_neg (by omega)])
      have hP : va_P E.1 vwCl (wM E q (if 0 ≤ g ∧ g ≤ 5 ∧ -7 ≤ n ∧ n ≤ 1 ∧ 0 ≤ d ∧ d ≤ 9999 ∧ ((n = 1 ∧ (¬ z 1 = 1 ∨ zg z g 5 = 0)) ∨ ¬ mTold z g n = -6) then mWrite z g n d else z) (if 0 ≤ g ∧ g ≤ 5 ∧ -7 ≤ n ∧ n ≤ 1 ∧ 0 ≤ d ∧ d ≤ 9999 ∧ ((n = 1 ∧ (¬ z 1 = 1 ∨ zg z g 5 = 0)) ∨ ¬ mTold z g n = -6) then recP z pa pm else pa) sl sv sp pd od (if 0 ≤ g ∧ g ≤ 5 ∧ -7 ≤ n ∧ n ≤ 1 ∧ 0 ≤ d ∧ d ≤ 9999 ∧ ((n = 1 ∧ (¬ z 1 = 1 ∨ zg z g 5 = 0)) ∨ ¬ mTold z g n = -6) then recM pm else pm) ty om st wr) H := by rw [eqc_z, eqc_pa, eqc_pm]; exact hP
      have hD : va_D A (wM E q (if 0 ≤ g ∧ g ≤ 5 ∧ -7 ≤ n ∧ n ≤ 1 ∧ 0 ≤ d ∧ d ≤ 9999 ∧ ((n = 1 ∧ (¬ z 1 = 1 ∨ zg z g 5 = 0)) ∨ ¬ mTold z g n = -6) then mWrite z g n d else z) (if 0 ≤ g ∧ g ≤ 5 ∧ -7 ≤ n ∧ n ≤ 1 ∧ 0 ≤ d ∧ d ≤ 9999 ∧ ((n = 1 ∧ (¬ z 1 = 1 ∨ zg z g 5 = 0)) ∨ ¬ mTold z g n = -6) then recP z pa pm else pa) sl sv sp pd od (if 0 ≤ g ∧ g ≤ 5 ∧ -7 ≤ n ∧ n ≤ 1 ∧ 0 ≤ d ∧ d ≤ 9999 ∧ ((n = 1 ∧ (¬ z 1 = 1 ∨ zg z g 5 = 0)) ∨ ¬ mTold z g n = -6) then recM pm else pm) ty om st wr) := by rw [eqc_z, eqc_pa, eqc_pm]; exact hD
      exact z_iret hx hb hr hlocks hK hS () (by (repeat (first | with_reducible rfl | rw [if_pos (by omega)] | rw [if_neg (by omega)]))) hP hD dX4_write_29
    · refine lv_iload_n hx hb dX4_write_16 rfl (lv_at hl 3 rfl) ?_
      refine lv_iconst (v := iI 0) hx hb dX4_write_17 (by decide) ?_
      refine lv_sipush (v := iI 9999) hx hb dX4_write_18 (by decide) ?_
      refine z_callS0 (As := [.int (iI d), .int (iI 0), .int (iI 9999)]) (rest := []) hx hb hml hown hts hK hA hl.1 hP hD hS (c_X4_in l E  d 0 9999  (by first | omega | exact hz _ _ (by omega) | exact hz | exact ⟨by omega, by omega⟩ | exact hm | exact hcz | exact ⟨by omega, by omega⟩) (by first | omega | exact hz _ _ (by omega) | exact hz | exact ⟨by omega, by omega⟩ | exact hm | exact hcz | exact ⟨by omega, by omega⟩) (by first | omega | exact hz _ _ (by omega) | exact hz | exact ⟨by omega, by omega⟩ | exact hm | exact hcz | exact ⟨by omega, by omega⟩)) gX4_write_X4_in rfl ndX4_in ⟨Nat.le_of_ble_eq_true rfl, Nat.le_of_ble_eq_true rfl⟩ rfl rfl (Nat.le_of_ble_eq_true rfl) dX4_write_21 ⟨Nat.le_of_ble_eq_true rfl, Nat.le_of_ble_eq_true rfl⟩ (fun x H locs hpost hP hD hS => ?_)
      subst hpost
      refine z_ifb_ne (tgt := 30) hx hb dX4_write_24 (by decide) (fun c_24 => ?_) (fun c_24 => ?_)
      · refine lv_aload_n hx hb dX4_write_30 rfl (lv_at hl 0 rfl) ?_
        refine lv_iload_n hx hb dX4_write_31 rfl (lv_at hl 1 rfl) ?_
        refine lv_iload_n hx hb dX4_write_32 rfl (lv_at hl 2 rfl) ?_
        have hgi := hmi g (by omega) (by omega)
        refine z_callV0 (ci := 4) (qk := 0) (As := [.int (iI g), .int (iI n)]) (rest := []) hx hb hml hown hts hK hA hl.1 hP hD hS (c_X4_canWrite l E q z pa sl sv sp pd od pm ty om st wr g n  (by first | omega | exact hz _ _ (by omega) | exact hz | exact ⟨by omega, by omega⟩ | exact hm | exact hcz | exact ⟨by omega, by omega⟩) (by first | omega | exact hz _ _ (by omega) | exact hz | exact ⟨by omega, by omega⟩ | exact hm | exact hcz | exact ⟨by omega, by omega⟩) (by first | omega | exact hz _ _ (by omega) | exact hz | exact ⟨by omega, by omega⟩ | exact hm | exact hcz | exact ⟨by omega, by omega⟩) (by first | omega | exact hz _ _ (by omega) | exact hz | exact ⟨by omega, by omega⟩ | exact hm | exact hcz | exact ⟨by omega, by omega⟩) (by first | omega | exact hz _ _ (by omega) | exact hz | exact ⟨by omega, by omega⟩ | exact hm | exact hcz | exact ⟨by omega, by omega⟩)) gX4_write_X4_canWrite rfl ndX4_canWrite ⟨Nat.le_of_ble_eq_true rfl, Nat.le_of_ble_eq_true rfl⟩ rfl rfl rfl rfl rfl (Nat.le_of_ble_eq_true rfl) dX4_write_33 ⟨Nat.le_of_ble_eq_true rfl, Nat.le_of_ble_eq_true rfl⟩ (fun x u H locs hpost hP hD hS => ?_)
        subst hpost
        have hP : va_P E.1 vwCl (wM E q z pa sl sv sp pd od pm ty om st wr) H := hP
        have hD : va_D A (wM E q z pa sl sv sp pd od pm ty om st wr) := hD
        refine z_ifb_ne (tgt := 42) hx hb dX4_write_36 (by decide) (fun c_36 => ?_) (fun c_36 => ?_)
        · refine lv_aload_n hx hb dX4_write_42 rfl (lv_at hl 0 rfl) ?_
          refine z_callVv0 (ci := 4) (qk := 0) (As := []) (rest := []) hx hb hml hown hts hK hA hl.1 hP hD hS (c_X4_record l E q z pa sl sv sp pd od pm ty om st wr   (by first | omega | exact hz _ _ (by omega) | exact hz | exact ⟨by omega, by omega⟩ | exact hm | exact hcz | exact ⟨by omega, by omega⟩)) gX4_write_X4_record rfl ndX4_record ⟨Nat.le_of_ble_eq_true rfl, Nat.le_of_ble_eq_true rfl⟩ rfl rfl rfl rfl rfl (Nat.le_of_ble_eq_true rfl) dX4_write_43 ⟨Nat.le_of_ble_eq_true rfl, Nat.le_of_ble_eq_true rfl⟩ (fun u H locs hpost hP hD hS => ?_)
          have hP : va_P E.1 vwCl (wM E q z (recP z pa pm) sl sv sp pd od (recM pm) ty om st wr) H := hP
          have hD : va_D A (wM E q z (recP z pa pm) sl sv sp pd od (recM pm) ty om st wr) := hD
          refine lv_aload_n hx hb dX4_write_46 rfl (lv_at hl 0 rfl) ?_
          refine lv_iload_n hx hb dX4_write_47 rfl (lv_at hl 1 rfl) ?_
          refine lv_iload_n hx hb dX4_write_48 rfl (lv_at hl 2 rfl) ?_
          refine lv_iload_n hx hb dX4_write_49 rfl (lv_at hl 3 rfl) ?_
          refine z_callV0 (ci := 4) (qk := 0) (As := [.int (iI g), .int (iI n), .int (iI d)]) (rest := []) hx hb hml hown hts hK hA hl.1 hP hD hS (c_X4_writeIt l E q z (recP z pa pm) sl sv sp pd od (recM pm) ty om st wr g n d  (by first | omega | exact hz _ _ (by omega) | exact hz | exact ⟨by omega, by omega⟩ | exact hm | exact hcz | exact ⟨by omega, by omega⟩) (by first | omega | exact hz _ _ (by omega) | exact hz | exact ⟨by omega, by omega⟩ | exact hm | exact hcz | exact ⟨by omega, by omega⟩) (by first | omega | exact hz _ _ (by omega) | exact hz | exact ⟨by omega, by omega⟩ | exact hm | exact hcz | exact ⟨by omega, by omega⟩) (by first | omega | exact hz _ _ (by omega) | exact hz | exact ⟨by omega, by omega⟩ | exact hm | exact hcz | exact ⟨by omega, by omega⟩) (by first | omega | exact hz _ _ (by omega) | exact hz | exact ⟨by omega, by omega⟩ | exact hm | exact hcz | exact ⟨by omega, by omega⟩) (by first | omega | exact hz _ _ (by omega) | exact hz | exact ⟨by omega, by omega⟩ | exact hm | exact hcz | exact ⟨by omega, by omega⟩) (by first | omega | exact hz _ _ (by omega) | exact hz | exact ⟨by omega, by omega⟩ | exact hm | exact hcz | exact ⟨by omega, by omega⟩) (by first | omega | exact hz _ _ (by omega) | exact hz | exact ⟨by omega, by omega⟩ | exact hm | exact hcz | exact ⟨by omega, by omega⟩) (by first | omega | exact hz _ _ (by omega) | exact hz | exact ⟨by omega, by omega⟩ | exact hm | exact hcz | exact ⟨by omega, by omega⟩) (by first | omega | exact hz _ _ (by omega) | exact hz | exact ⟨by omega, by omega⟩ | exact hm | exact hcz | exact ⟨by omega, by omega⟩)) gX4_write_X4_writeIt rfl ndX4_writeIt ⟨Nat.le_of_ble_eq_true rfl, Nat.le_of_ble_eq_true rfl⟩ rfl rfl rfl rfl rfl (Nat.le_of_ble_eq_true rfl) dX4_write_50 ⟨Nat.le_of_ble_eq_true rfl, Nat.le_of_ble_eq_true rfl⟩ (fun x u H locs hpost hP hD hS => ?_)
          subst hpost
          have hP : va_P E.1 vwCl (wM E q (mWrite z g n d) (recP z pa pm) sl sv sp pd od (recM pm) ty om st wr) H := hP
          have hD : va_D A (wM E q (mWrite z g n d) (recP z pa pm) sl sv sp pd od (recM pm) ty om st wr) := hD
          have eqc_z : (if 0 ≤ g ∧ g ≤ 5 ∧ -7 ≤ n ∧ n ≤ 1 ∧ 0 ≤ d ∧ d ≤ 9999 ∧ ((n = 1 ∧ (¬ z 1 = 1 ∨ zg z g 5 = 0)) ∨ ¬ mTold z g n = -6) then mWrite z g n d else z) = mWrite z g n d := by (first | rw [if_pos (by omega)] | rw [if_neg (by omega)])
          have eqc_pa : (if 0 ≤ g ∧ g ≤ 5 ∧ -7 ≤ n ∧ n ≤ 1 ∧ 0 ≤ d ∧ d ≤ 9999 ∧ ((n = 1 ∧ (¬ z 1 = 1 ∨ zg z g 5 = 0)) ∨ ¬ mTold z g n = -6) then recP z pa pm else pa) = recP z pa pm := by (first | rw [if_pos (by omega)] | rw [if_neg (by omega)])
          have eqc_pm : (if 0 ≤ g ∧ g ≤ 5 ∧ -7 ≤ n ∧ n ≤ 1 ∧ 0 ≤ d ∧ d ≤ 9999 ∧ ((n = 1 ∧ (¬ z 1 = 1 ∨ zg z g 5 = 0)) ∨ ¬ mTold z g n = -6) then recM pm else pm) = recM pm := by (first | rw [if_pos (by omega)] | rw [if_neg (by omega)])
          have hP : va_P E.1 vwCl (wM E q (if 0 ≤ g ∧ g ≤ 5 ∧ -7 ≤ n ∧ n ≤ 1 ∧ 0 ≤ d ∧ d ≤ 9999 ∧ ((n = 1 ∧ (¬ z 1 = 1 ∨ zg z g 5 = 0)) ∨ ¬ mTold z g n = -6) then mWrite z g n d else z) (if 0 ≤ g ∧ g ≤ 5 ∧ -7 ≤ n ∧ n ≤ 1 ∧ 0 ≤ d ∧ d ≤ 9999 ∧ ((n = 1 ∧ (¬ z 1 = 1 ∨ zg z g 5 = 0)) ∨ ¬ mTold z g n = -6) then recP z pa pm else pa) sl sv sp pd od (if 0 ≤ g ∧ g ≤ 5 ∧ -7 ≤ n ∧ n ≤ 1 ∧ 0 ≤ d ∧ d ≤ 9999 ∧ ((n = 1 ∧ (¬ z 1 = 1 ∨ zg z g 5 = 0)) ∨ ¬ mTold z g n = -6) then recM pm else pm) ty om st wr) H := by rw [eqc_z, eqc_pa, eqc_pm]; exact hP
          have hD : va_D A (wM E q (if 0 ≤ g ∧ g ≤ 5 ∧ -7 ≤ n ∧ n ≤ 1 ∧ 0 ≤ d ∧ d ≤ 9999 ∧ ((n = 1 ∧ (¬ z 1 = 1 ∨ zg z g 5 = 0)) ∨ ¬ mTold z g n = -6) then mWrite z g n d else z) (if 0 ≤ g ∧ g ≤ 5 ∧ -7 ≤ n ∧ n ≤ 1 ∧ 0 ≤ d ∧ d ≤ 9999 ∧ ((n = 1 ∧ (¬ z 1 = 1 ∨ zg z g 5 = 0)) ∨ ¬ mTold z g n = -6) then recP z pa pm else pa) sl sv sp pd od (if 0 ≤ g ∧ g ≤ 5 ∧ -7 ≤ n ∧ n ≤ 1 ∧ 0 ≤ d ∧ d ≤ 9999 ∧ ((n = 1 ∧ (¬ z 1 = 1 ∨ zg z g 5 = 0)) ∨ ¬ mTold z g n = -6) then recM pm else pm) ty om st wr) := by rw [eqc_z, eqc_pa, eqc_pm]; exact hD
          exact z_iret hx hb hr hlocks hK hS () (by (repeat (first | with_reducible rfl | rw [if_pos (by omega)] | rw [if_neg (by omega)]))) hP hD dX4_write_53
        · refine lv_bipush (v := iI (-5)) hx hb dX4_write_39 (by decide) ?_
          have eqc_z : (if 0 ≤ g ∧ g ≤ 5 ∧ -7 ≤ n ∧ n ≤ 1 ∧ 0 ≤ d ∧ d ≤ 9999 ∧ ((n = 1 ∧ (¬ z 1 = 1 ∨ zg z g 5 = 0)) ∨ ¬ mTold z g n = -6) then mWrite z g n d else z) = z := by (first | rw [if_pos (by omega)] | rw [if_neg (by omega)])
          have eqc_pa : (if 0 ≤ g ∧ g ≤ 5 ∧ -7 ≤ n ∧ n ≤ 1 ∧ 0 ≤ d ∧ d ≤ 9999 ∧ ((n = 1 ∧ (¬ z 1 = 1 ∨ zg z g 5 = 0)) ∨ ¬ mTold z g n = -6) then recP z pa pm else pa) = pa := by (first | rw [if_pos (by omega)] | rw [if_neg (by omega)])
          have eqc_pm : (if 0 ≤ g ∧ g ≤ 5 ∧ -7 ≤ n ∧ n ≤ 1 ∧ 0 ≤ d ∧ d ≤ 9999 ∧ ((n = 1 ∧ (¬ z 1 = 1 ∨ zg z g 5 = 0)) ∨ ¬ mTold z g n = -6) then recM pm else pm) = pm := by (first | rw [if_pos (by omega)] | rw [if_neg (by omega)])
          have hP : va_P E.1 vwCl (wM E q (if 0 ≤ g ∧ g ≤ 5 ∧ -7 ≤ n ∧ n ≤ 1 ∧ 0 ≤ d ∧ d ≤ 9999 ∧ ((n = 1 ∧ (¬ z 1 = 1 ∨ zg z g 5 = 0)) ∨ ¬ mTold z g n = -6) then mWrite z g n d else z) (if 0 ≤ g ∧ g ≤ 5 ∧ -7 ≤ n ∧ n ≤ 1 ∧ 0 ≤ d ∧ d ≤ 9999 ∧ ((n = 1 ∧ (¬ z 1 = 1 ∨ zg z g 5 = 0)) ∨ ¬ mTold z g n = -6) then recP z pa pm else pa) sl sv sp pd od (if 0 ≤ g ∧ g ≤ 5 ∧ -7 ≤ n ∧ n ≤ 1 ∧ 0 ≤ d ∧ d ≤ 9999 ∧ ((n = 1 ∧ (¬ z 1 = 1 ∨ zg z g 5 = 0)) ∨ ¬ mTold z g n = -6) then recM pm else pm) ty om st wr) H := by rw [eqc_z, eqc_pa, eqc_pm]; exact hP
          have hD : va_D A (wM E q (if 0 ≤ g ∧ g ≤ 5 ∧ -7 ≤ n ∧ n ≤ 1 ∧ 0 ≤ d ∧ d ≤ 9999 ∧ ((n = 1 ∧ (¬ z 1 = 1 ∨ zg z g 5 = 0)) ∨ ¬ mTold z g n = -6) then mWrite z g n d else z) (if 0 ≤ g ∧ g ≤ 5 ∧ -7 ≤ n ∧ n ≤ 1 ∧ 0 ≤ d ∧ d ≤ 9999 ∧ ((n = 1 ∧ (¬ z 1 = 1 ∨ zg z g 5 = 0)) ∨ ¬ mTold z g n = -6) then recP z pa pm else pa) sl sv sp pd od (if 0 ≤ g ∧ g ≤ 5 ∧ -7 ≤ n ∧ n ≤ 1 ∧ 0 ≤ d ∧ d ≤ 9999 ∧ ((n = 1 ∧ (¬ z 1 = 1 ∨ zg z g 5 = 0)) ∨ ¬ mTold z g n = -6) then recM pm else pm) ty om st wr) := by rw [eqc_z, eqc_pa, eqc_pm]; exact hD
          exact z_iret hx hb hr hlocks hK hS () (by (repeat (first | with_reducible rfl | rw [if_pos (by omega)] | rw [if_neg (by omega)]))) hP hD dX4_write_41
      · refine lv_bipush (v := iI (-2)) hx hb dX4_write_27 (by decide) ?_
        have eqc_z : (if 0 ≤ g ∧ g ≤ 5 ∧ -7 ≤ n ∧ n ≤ 1 ∧ 0 ≤ d ∧ d ≤ 9999 ∧ ((n = 1 ∧ (¬ z 1 = 1 ∨ zg z g 5 = 0)) ∨ ¬ mTold z g n = -6) then mWrite z g n d else z) = z := by (first | rw [if_pos (by omega)] | rw [if_neg (by omega)])
        have eqc_pa : (if 0 ≤ g ∧ g ≤ 5 ∧ -7 ≤ n ∧ n ≤ 1 ∧ 0 ≤ d ∧ d ≤ 9999 ∧ ((n = 1 ∧ (¬ z 1 = 1 ∨ zg z g 5 = 0)) ∨ ¬ mTold z g n = -6) then recP z pa pm else pa) = pa := by (first | rw [if_pos (by omega)] | rw [if_neg (by omega)])
        have eqc_pm : (if 0 ≤ g ∧ g ≤ 5 ∧ -7 ≤ n ∧ n ≤ 1 ∧ 0 ≤ d ∧ d ≤ 9999 ∧ ((n = 1 ∧ (¬ z 1 = 1 ∨ zg z g 5 = 0)) ∨ ¬ mTold z g n = -6) then recM pm else pm) = pm := by (first | rw [if_pos (by omega)] | rw [if_neg (by omega)])
        have hP : va_P E.1 vwCl (wM E q (if 0 ≤ g ∧ g ≤ 5 ∧ -7 ≤ n ∧ n ≤ 1 ∧ 0 ≤ d ∧ d ≤ 9999 ∧ ((n = 1 ∧ (¬ z 1 = 1 ∨ zg z g 5 = 0)) ∨ ¬ mTold z g n = -6) then mWrite z g n d else z) (if 0 ≤ g ∧ g ≤ 5 ∧ -7 ≤ n ∧ n ≤ 1 ∧ 0 ≤ d ∧ d ≤ 9999 ∧ ((n = 1 ∧ (¬ z 1 = 1 ∨ zg z g 5 = 0)) ∨ ¬ mTold z g n = -6) then recP z pa pm else pa) sl sv sp pd od (if 0 ≤ g ∧ g ≤ 5 ∧ -7 ≤ n ∧ n ≤ 1 ∧ 0 ≤ d ∧ d ≤ 9999 ∧ ((n = 1 ∧ (¬ z 1 = 1 ∨ zg z g 5 = 0)) ∨ ¬ mTold z g n = -6) then recM pm else pm) ty om st wr) H := by rw [eqc_z, eqc_pa, eqc_pm]; exact hP
        have hD : va_D A (wM E q (if 0 ≤ g ∧ g ≤ 5 ∧ -7 ≤ n ∧ n ≤ 1 ∧ 0 ≤ d ∧ d ≤ 9999 ∧ ((n = 1 ∧ (¬ z 1 = 1 ∨ zg z g 5 = 0)) ∨ ¬ mTold z g n = -6) then mWrite z g n d else z) (if 0 ≤ g ∧ g ≤ 5 ∧ -7 ≤ n ∧ n ≤ 1 ∧ 0 ≤ d ∧ d ≤ 9999 ∧ ((n = 1 ∧ (¬ z 1 = 1 ∨ zg z g 5 = 0)) ∨ ¬ mTold z g n = -6) then recP z pa pm else pa) sl sv sp pd od (if 0 ≤ g ∧ g ≤ 5 ∧ -7 ≤ n ∧ n ≤ 1 ∧ 0 ≤ d ∧ d ≤ 9999 ∧ ((n = 1 ∧ (¬ z 1 = 1 ∨ zg z g 5 = 0)) ∨ ¬ mTold z g n = -6) then recM pm else pm) ty om st wr) := by rw [eqc_z, eqc_pa, eqc_pm]; exact hD
        exact z_iret hx hb hr hlocks hK hS () (by (repeat (first | with_reducible rfl | rw [if_pos (by omega)] | rw [if_neg (by omega)]))) hP hD dX4_write_29
  · refine lv_iconst (v := iI (-1)) hx hb dX4_write_7 (by decide) ?_
    have eqc_z : (if 0 ≤ g ∧ g ≤ 5 ∧ -7 ≤ n ∧ n ≤ 1 ∧ 0 ≤ d ∧ d ≤ 9999 ∧ ((n = 1 ∧ (¬ z 1 = 1 ∨ zg z g 5 = 0)) ∨ ¬ mTold z g n = -6) then mWrite z g n d else z) = z := by (first | rw [if_pos (by omega)] | rw [if_neg (by omega)])
    have eqc_pa : (if 0 ≤ g ∧ g ≤ 5 ∧ -7 ≤ n ∧ n ≤ 1 ∧ 0 ≤ d ∧ d ≤ 9999 ∧ ((n = 1 ∧ (¬ z 1 = 1 ∨ zg z g 5 = 0)) ∨ ¬ mTold z g n = -6) then recP z pa pm else pa) = pa := by (first | rw [if_pos (by omega)] | rw [if_neg (by omega)])
    have eqc_pm : (if 0 ≤ g ∧ g ≤ 5 ∧ -7 ≤ n ∧ n ≤ 1 ∧ 0 ≤ d ∧ d ≤ 9999 ∧ ((n = 1 ∧ (¬ z 1 = 1 ∨ zg z g 5 = 0)) ∨ ¬ mTold z g n = -6) then recM pm else pm) = pm := by (first | rw [if_pos (by omega)] | rw [if_neg (by omega)])
    have hP : va_P E.1 vwCl (wM E q (if 0 ≤ g ∧ g ≤ 5 ∧ -7 ≤ n ∧ n ≤ 1 ∧ 0 ≤ d ∧ d ≤ 9999 ∧ ((n = 1 ∧ (¬ z 1 = 1 ∨ zg z g 5 = 0)) ∨ ¬ mTold z g n = -6) then mWrite z g n d else z) (if 0 ≤ g ∧ g ≤ 5 ∧ -7 ≤ n ∧ n ≤ 1 ∧ 0 ≤ d ∧ d ≤ 9999 ∧ ((n = 1 ∧ (¬ z 1 = 1 ∨ zg z g 5 = 0)) ∨ ¬ mTold z g n = -6) then recP z pa pm else pa) sl sv sp pd od (if 0 ≤ g ∧ g ≤ 5 ∧ -7 ≤ n ∧ n ≤ 1 ∧ 0 ≤ d ∧ d ≤ 9999 ∧ ((n = 1 ∧ (¬ z 1 = 1 ∨ zg z g 5 = 0)) ∨ ¬ mTold z g n = -6) then recM pm else pm) ty om st wr) H := by rw [eqc_z, eqc_pa, eqc_pm]; exact hP
    have hD : va_D A (wM E q (if 0 ≤ g ∧ g ≤ 5 ∧ -7 ≤ n ∧ n ≤ 1 ∧ 0 ≤ d ∧ d ≤ 9999 ∧ ((n = 1 ∧ (¬ z 1 = 1 ∨ zg z g 5 = 0)) ∨ ¬ mTold z g n = -6) then mWrite z g n d else z) (if 0 ≤ g ∧ g ≤ 5 ∧ -7 ≤ n ∧ n ≤ 1 ∧ 0 ≤ d ∧ d ≤ 9999 ∧ ((n = 1 ∧ (¬ z 1 = 1 ∨ zg z g 5 = 0)) ∨ ¬ mTold z g n = -6) then recP z pa pm else pa) sl sv sp pd od (if 0 ≤ g ∧ g ≤ 5 ∧ -7 ≤ n ∧ n ≤ 1 ∧ 0 ≤ d ∧ d ≤ 9999 ∧ ((n = 1 ∧ (¬ z 1 = 1 ∨ zg z g 5 = 0)) ∨ ¬ mTold z g n = -6) then recM pm else pm) ty om st wr) := by rw [eqc_z, eqc_pa, eqc_pm]; exact hD
    exact z_iret hx hb hr hlocks hK hS () (by (repeat (first | with_reducible rfl | rw [if_pos (by omega)] | rw [if_neg (by omega)]))) hP hD dX4_write_8

theorem ndX4_read : yX4_read.cls = RX4 ∧ yX4_read.cls ≠ "java/lang/invoke/MethodHandle" ∧ yX4_read.cls ≠ "java/lang/invoke/VarHandle" ∧ (parseMethodDescriptor yX4_read.desc).map (fun d => d.parameters.length) = some 2 := by decide +kernel
set_option maxRecDepth 100000 in
set_option maxHeartbeats 200000 in
theorem c_X4_read (l : Launch) (E : zE) (q : Nat → Nat) (z pa sl sv sp pd od : Int → Int) (pm ty om st wr : Int) (g : Int) (n : Int) (h0 : rg g) (h1 : rg n) (h2 : 0 ≤ pm ∧ pm ≤ 6) (h3 : MI z) : zF l E yX4_read wsX4_read 5 115 [.ref (q 0), .int (iI g), .int (iI n)] (wM E q z pa sl sv sp pd od pm ty om st wr) (if ¬ (0 ≤ g ∧ g ≤ 5) then -1 else if ¬ (-7 ≤ n ∧ n ≤ 1) then -2 else mReadR z g n) (wM E q (if 0 ≤ g ∧ g ≤ 5 ∧ -7 ≤ n ∧ n ≤ 1 then mRead z g n else z) (if 0 ≤ g ∧ g ≤ 5 ∧ -7 ≤ n ∧ n ≤ 1 then recP z pa pm else pa) sl sv sp pd od (if 0 ≤ g ∧ g ≤ 5 ∧ -7 ≤ n ∧ n ≤ 1 then recM pm else pm) ty om st wr) := by
  obtain ⟨hz, hmi, hb1, hb2, hb6⟩ := id h3
  have hm : AG z := fun g a b => (hmi g a b).1
  refine zC_of (cc := cX4_read) (maxL := 3) (by decide) rfl (Nat.le_of_ble_eq_true rfl) ?_
  intro p e s m below meth c ls A hx hb hr hts hown hlocks hml hK hA hS hP hD hl
  have hown : s.vm.findClass RX4 = some m.cls := hown
  have hl : lv_has ls 3 [(0, .ref (q 0)), (1, .int (iI g)), (2, .int (iI n))] := hl
  refine lv_iload_n hx hb dX4_read_0 rfl (lv_at hl 1 rfl) ?_
  refine z_callS0 (As := [.int (iI g)]) (rest := []) hx hb hml hown hts hK hA hl.1 hP hD hS (c_X4_isGroup l E  g  (by first | omega | exact hz _ _ (by omega) | exact hz | exact ⟨by omega, by omega⟩ | exact hm | exact hcz | exact ⟨by omega, by omega⟩)) gX4_read_X4_isGroup rfl ndX4_isGroup ⟨Nat.le_of_ble_eq_true rfl, Nat.le_of_ble_eq_true rfl⟩ rfl rfl (Nat.le_of_ble_eq_true rfl) dX4_read_1 ⟨Nat.le_of_ble_eq_true rfl, Nat.le_of_ble_eq_true rfl⟩ (fun x H locs hpost hP hD hS => ?_)
  subst hpost
  refine z_ifb_ne (tgt := 9) hx hb dX4_read_4 (by decide) (fun c_4 => ?_) (fun c_4 => ?_)
  · refine lv_iload_n hx hb dX4_read_9 rfl (lv_at hl 2 rfl) ?_
    refine z_callS0 (As := [.int (iI n)]) (rest := []) hx hb hml hown hts hK hA hl.1 hP hD hS (c_X4_isName l E  n  (by first | omega | exact hz _ _ (by omega) | exact hz | exact ⟨by omega, by omega⟩ | exact hm | exact hcz | exact ⟨by omega, by omega⟩)) gX4_read_X4_isName rfl ndX4_isName ⟨Nat.le_of_ble_eq_true rfl, Nat.le_of_ble_eq_true rfl⟩ rfl rfl (Nat.le_of_ble_eq_true rfl) dX4_read_10 ⟨Nat.le_of_ble_eq_true rfl, Nat.le_of_ble_eq_true rfl⟩ (fun x H locs hpost hP hD hS => ?_)
    subst hpost
    refine z_ifb_ne (tgt := 19) hx hb dX4_read_13 (by decide) (fun c_13 => ?_) (fun c_13 => ?_)
    · refine lv_aload_n hx hb dX4_read_19 rfl (lv_at hl 0 rfl) ?_
      have hgi := hmi g (by omega) (by omega)
      refine z_callVv0 (ci := 4) (qk := 0) (As := []) (rest := []) hx hb hml hown hts hK hA hl.1 hP hD hS (c_X4_record l E q z pa sl sv sp pd od pm ty om st wr   (by first | omega | exact hz _ _ (by omega) | exact hz | exact ⟨by omega, by omega⟩ | exact hm | exact hcz | exact ⟨by omega, by omega⟩)) gX4_read_X4_record rfl ndX4_record ⟨Nat.le_of_ble_eq_true rfl, Nat.le_of_ble_eq_true rfl⟩ rfl rfl rfl rfl rfl (Nat.le_of_ble_eq_true rfl) dX4_read_20 ⟨Nat.le_of_ble_eq_true rfl, Nat.le_of_ble_eq_true rfl⟩ (fun u H locs hpost hP hD hS => ?_)
      have hP : va_P E.1 vwCl (wM E q z (recP z pa pm) sl sv sp pd od (recM pm) ty om st wr) H := hP
      have hD : va_D A (wM E q z (recP z pa pm) sl sv sp pd od (recM pm) ty om st wr) := hD
      refine lv_aload_n hx hb dX4_read_23 rfl (lv_at hl 0 rfl) ?_
      refine lv_iload_n hx hb dX4_read_24 rfl (lv_at hl 1 rfl) ?_
      refine lv_iload_n hx hb dX4_read_25 rfl (lv_at hl 2 rfl) ?_
      refine z_callV0 (ci := 4) (qk := 0) (As := [.int (iI g), .int (iI n)]) (rest := []) hx hb hml hown hts hK hA hl.1 hP hD hS (c_X4_readIt l E q z (recP z pa pm) sl sv sp pd od (recM pm) ty om st wr g n  (by first | omega | exact hz _ _ (by omega) | exact hz | exact ⟨by omega, by omega⟩ | exact hm | exact hcz | exact ⟨by omega, by omega⟩) (by first | omega | exact hz _ _ (by omega) | exact hz | exact ⟨by omega, by omega⟩ | exact hm | exact hcz | exact ⟨by omega, by omega⟩) (by first | omega | exact hz _ _ (by omega) | exact hz | exact ⟨by omega, by omega⟩ | exact hm | exact hcz | exact ⟨by omega, by omega⟩) (by first | omega | exact hz _ _ (by omega) | exact hz | exact ⟨by omega, by omega⟩ | exact hm | exact hcz | exact ⟨by omega, by omega⟩) (by first | omega | exact hz _ _ (by omega) | exact hz | exact ⟨by omega, by omega⟩ | exact hm | exact hcz | exact ⟨by omega, by omega⟩)) gX4_read_X4_readIt rfl ndX4_readIt ⟨Nat.le_of_ble_eq_true rfl, Nat.le_of_ble_eq_true rfl⟩ rfl rfl rfl rfl rfl (Nat.le_of_ble_eq_true rfl) dX4_read_26 ⟨Nat.le_of_ble_eq_true rfl, Nat.le_of_ble_eq_true rfl⟩ (fun x u H locs hpost hP hD hS => ?_)
      subst hpost
      have hP : va_P E.1 vwCl (wM E q (mRead z g n) (recP z pa pm) sl sv sp pd od (recM pm) ty om st wr) H := hP
      have hD : va_D A (wM E q (mRead z g n) (recP z pa pm) sl sv sp pd od (recM pm) ty om st wr) := hD
      have eqc_z : (if 0 ≤ g ∧ g ≤ 5 ∧ -7 ≤ n ∧ n ≤ 1 then mRead z g n else z) = mRead z g n := by (first | rw [if_pos (by omega)] | rw [if_neg (by omega)])
      have eqc_pa : (if 0 ≤ g ∧ g ≤ 5 ∧ -7 ≤ n ∧ n ≤ 1 then recP z pa pm else pa) = recP z pa pm := by (first | rw [if_pos (by omega)] | rw [if_neg (by omega)])
      have eqc_pm : (if 0 ≤ g ∧ g ≤ 5 ∧ -7 ≤ n ∧ n ≤ 1 then recM pm else pm) = recM pm := by (first | rw [if_pos (by omega)] | rw [if_neg (by omega)])
      have hP : va_P E.1 vwCl (wM E q (if 0 ≤ g ∧ g ≤ 5 ∧ -7 ≤ n ∧ n ≤ 1 then mRead z g n else z) (if 0 ≤ g ∧ g ≤ 5 ∧ -7 ≤ n ∧ n ≤ 1 then recP z pa pm else pa) sl sv sp pd od (if 0 ≤ g ∧ g ≤ 5 ∧ -7 ≤ n ∧ n ≤ 1 then recM pm else pm) ty om st wr) H := by rw [eqc_z, eqc_pa, eqc_pm]; exact hP
      have hD : va_D A (wM E q (if 0 ≤ g ∧ g ≤ 5 ∧ -7 ≤ n ∧ n ≤ 1 then mRead z g n else z) (if 0 ≤ g ∧ g ≤ 5 ∧ -7 ≤ n ∧ n ≤ 1 then recP z pa pm else pa) sl sv sp pd od (if 0 ≤ g ∧ g ≤ 5 ∧ -7 ≤ n ∧ n ≤ 1 then recM pm else pm) ty om st wr) := by rw [eqc_z, eqc_pa, eqc_pm]; exact hD
      exact z_iret hx hb hr hlocks hK hS () (by (repeat (first | with_reducible rfl | rw [if_pos (by omega)] | rw [if_neg (by omega)]))) hP hD dX4_read_29
    · refine lv_bipush (v := iI (-2)) hx hb dX4_read_16 (by decide) ?_
      have eqc_z : (if 0 ≤ g ∧ g ≤ 5 ∧ -7 ≤ n ∧ n ≤ 1 then mRead z g n else z) = z := by (first | rw [if_pos (by omega)] | rw [if_neg (by omega)])
      have eqc_pa : (if 0 ≤ g ∧ g ≤ 5 ∧ -7 ≤ n ∧ n ≤ 1 then recP z pa pm else pa) = pa := by (first | rw [if_pos (by omega)] | rw [if_neg (by omega)])
      have eqc_pm : (if 0 ≤ g ∧ g ≤ 5 ∧ -7 ≤ n ∧ n ≤ 1 then recM pm else pm) = pm := by (first | rw [if_pos (by omega)] | rw [if_neg (by omega)])
      have hP : va_P E.1 vwCl (wM E q (if 0 ≤ g ∧ g ≤ 5 ∧ -7 ≤ n ∧ n ≤ 1 then mRead z g n else z) (if 0 ≤ g ∧ g ≤ 5 ∧ -7 ≤ n ∧ n ≤ 1 then recP z pa pm else pa) sl sv sp pd od (if 0 ≤ g ∧ g ≤ 5 ∧ -7 ≤ n ∧ n ≤ 1 then recM pm else pm) ty om st wr) H := by rw [eqc_z, eqc_pa, eqc_pm]; exact hP
      have hD : va_D A (wM E q (if 0 ≤ g ∧ g ≤ 5 ∧ -7 ≤ n ∧ n ≤ 1 then mRead z g n else z) (if 0 ≤ g ∧ g ≤ 5 ∧ -7 ≤ n ∧ n ≤ 1 then recP z pa pm else pa) sl sv sp pd od (if 0 ≤ g ∧ g ≤ 5 ∧ -7 ≤ n ∧ n ≤ 1 then recM pm else pm) ty om st wr) := by rw [eqc_z, eqc_pa, eqc_pm]; exact hD
      exact z_iret hx hb hr hlocks hK hS () (by (repeat (first | with_reducible rfl | rw [if_pos (by omega)] | rw [if_neg (by omega)]))) hP hD dX4_read_18
  · refine lv_iconst (v := iI (-1)) hx hb dX4_read_7 (by decide) ?_
    have eqc_z : (if 0 ≤ g ∧ g ≤ 5 ∧ -7 ≤ n ∧ n ≤ 1 then mRead z g n else z) = z := by (first | rw [if_pos (by omega)] | rw [if_neg (by omega)])
    have eqc_pa : (if 0 ≤ g ∧ g ≤ 5 ∧ -7 ≤ n ∧ n ≤ 1 then recP z pa pm else pa) = pa := by (first | rw [if_pos (by omega)] | rw [if_neg (by omega)])
    have eqc_pm : (if 0 ≤ g ∧ g ≤ 5 ∧ -7 ≤ n ∧ n ≤ 1 then recM pm else pm) = pm := by (first | rw [if_pos (by omega)] | rw [if_neg (by omega)])
    have hP : va_P E.1 vwCl (wM E q (if 0 ≤ g ∧ g ≤ 5 ∧ -7 ≤ n ∧ n ≤ 1 then mRead z g n else z) (if 0 ≤ g ∧ g ≤ 5 ∧ -7 ≤ n ∧ n ≤ 1 then recP z pa pm else pa) sl sv sp pd od (if 0 ≤ g ∧ g ≤ 5 ∧ -7 ≤ n ∧ n ≤ 1 then recM pm else pm) ty om st wr) H := by rw [eqc_z, eqc_pa, eqc_pm]; exact hP
    have hD : va_D A (wM E q (if 0 ≤ g ∧ g ≤ 5 ∧ -7 ≤ n ∧ n ≤ 1 then mRead z g n else z) (if 0 ≤ g ∧ g ≤ 5 ∧ -7 ≤ n ∧ n ≤ 1 then recP z pa pm else pa) sl sv sp pd od (if 0 ≤ g ∧ g ≤ 5 ∧ -7 ≤ n ∧ n ≤ 1 then recM pm else pm) ty om st wr) := by rw [eqc_z, eqc_pa, eqc_pm]; exact hD
    exact z_iret hx hb hr hlocks hK hS () (by (repeat (first | with_reducible rfl | rw [if_pos (by omega)] | rw [if_neg (by omega)]))) hP hD dX4_read_8

theorem ndX4_delete : yX4_delete.cls = RX4 ∧ yX4_delete.cls ≠ "java/lang/invoke/MethodHandle" ∧ yX4_delete.cls ≠ "java/lang/invoke/VarHandle" ∧ (parseMethodDescriptor yX4_delete.desc).map (fun d => d.parameters.length) = some 2 := by decide +kernel
set_option maxRecDepth 100000 in
set_option maxHeartbeats 200000 in
theorem c_X4_delete (l : Launch) (E : zE) (q : Nat → Nat) (z pa sl sv sp pd od : Int → Int) (pm ty om st wr : Int) (g : Int) (n : Int) (h0 : rg g) (h1 : rg n) (h2 : 0 ≤ pm ∧ pm ≤ 6) (h3 : MI z) : zF l E yX4_delete wsX4_delete 6 134 [.ref (q 0), .int (iI g), .int (iI n)] (wM E q z pa sl sv sp pd od pm ty om st wr) (if ¬ (0 ≤ g ∧ g ≤ 5) then -1 else if ¬ (-7 ≤ n ∧ n ≤ 1) then -2 else if mTold z g n = -6 then -5 else zg z g (15 + 5 * (mTold z g n) + 1)) (wM E q (if 0 ≤ g ∧ g ≤ 5 ∧ -7 ≤ n ∧ n ≤ 1 ∧ ¬ mTold z g n = -6 then mDel z g (mTold z g n) else z) (if 0 ≤ g ∧ g ≤ 5 ∧ -7 ≤ n ∧ n ≤ 1 ∧ ¬ mTold z g n = -6 then recP z pa pm else pa) sl sv sp pd od (if 0 ≤ g ∧ g ≤ 5 ∧ -7 ≤ n ∧ n ≤ 1 ∧ ¬ mTold z g n = -6 then recM pm else pm) ty om st wr) := by
  obtain ⟨hz, hmi, hb1, hb2, hb6⟩ := id h3
  have hm : AG z := fun g a b => (hmi g a b).1
  refine zC_of (cc := cX4_delete) (maxL := 3) (by decide) rfl (Nat.le_of_ble_eq_true rfl) ?_
  intro p e s m below meth c ls A hx hb hr hts hown hlocks hml hK hA hS hP hD hl
  have hown : s.vm.findClass RX4 = some m.cls := hown
  have hl : lv_has ls 3 [(0, .ref (q 0)), (1, .int (iI g)), (2, .int (iI n))] := hl
  refine lv_iload_n hx hb dX4_delete_0 rfl (lv_at hl 1 rfl) ?_
  refine z_callS0 (As := [.int (iI g)]) (rest := []) hx hb hml hown hts hK hA hl.1 hP hD hS (c_X4_isGroup l E  g  (by first | omega | exact hz _ _ (by omega) | exact hz | exact ⟨by omega, by omega⟩ | exact hm | exact hcz | exact ⟨by omega, by omega⟩)) gX4_delete_X4_isGroup rfl ndX4_isGroup ⟨Nat.le_of_ble_eq_true rfl, Nat.le_of_ble_eq_true rfl⟩ rfl rfl (Nat.le_of_ble_eq_true rfl) dX4_delete_1 ⟨Nat.le_of_ble_eq_true rfl, Nat.le_of_ble_eq_true rfl⟩ (fun x H locs hpost hP hD hS => ?_)
  subst hpost
  refine z_ifb_ne (tgt := 9) hx hb dX4_delete_4 (by decide) (fun c_4 => ?_) (fun c_4 => ?_)
  · refine lv_iload_n hx hb dX4_delete_9 rfl (lv_at hl 2 rfl) ?_
    refine z_callS0 (As := [.int (iI n)]) (rest := []) hx hb hml hown hts hK hA hl.1 hP hD hS (c_X4_isName l E  n  (by first | omega | exact hz _ _ (by omega) | exact hz | exact ⟨by omega, by omega⟩ | exact hm | exact hcz | exact ⟨by omega, by omega⟩)) gX4_delete_X4_isName rfl ndX4_isName ⟨Nat.le_of_ble_eq_true rfl, Nat.le_of_ble_eq_true rfl⟩ rfl rfl (Nat.le_of_ble_eq_true rfl) dX4_delete_10 ⟨Nat.le_of_ble_eq_true rfl, Nat.le_of_ble_eq_true rfl⟩ (fun x H locs hpost hP hD hS => ?_)
    subst hpost
    refine z_ifb_ne (tgt := 19) hx hb dX4_delete_13 (by decide) (fun c_13 => ?_) (fun c_13 => ?_)
    · refine lv_aload_n hx hb dX4_delete_19 rfl (lv_at hl 0 rfl) ?_
      refine lv_iload_n hx hb dX4_delete_20 rfl (lv_at hl 1 rfl) ?_
      refine lv_iload_n hx hb dX4_delete_21 rfl (lv_at hl 2 rfl) ?_
      have hgi := hmi g (by omega) (by omega)
      have ht := mTold_rg (z := z) (g := g) (n := n) hgi.1.1
      refine z_callV0 (ci := 4) (qk := 0) (As := [.int (iI g), .int (iI n)]) (rest := []) hx hb hml hown hts hK hA hl.1 hP hD hS (c_X4_told l E q z pa sl sv sp pd od pm ty om st wr g n  (by first | omega | exact hz _ _ (by omega) | exact hz | exact ⟨by omega, by omega⟩ | exact hm | exact hcz | exact ⟨by omega, by omega⟩) (by first | omega | exact hz _ _ (by omega) | exact hz | exact ⟨by omega, by omega⟩ | exact hm | exact hcz | exact ⟨by omega, by omega⟩) (by first | omega | exact hz _ _ (by omega) | exact hz | exact ⟨by omega, by omega⟩ | exact hm | exact hcz | exact ⟨by omega, by omega⟩) (by first | omega | exact hz _ _ (by omega) | exact hz | exact ⟨by omega, by omega⟩ | exact hm | exact hcz | exact ⟨by omega, by omega⟩) (by first | omega | exact hz _ _ (by omega) | exact hz | exact ⟨by omega, by omega⟩ | exact hm | exact hcz | exact ⟨by omega, by omega⟩)) gX4_delete_X4_told rfl ndX4_told ⟨Nat.le_of_ble_eq_true rfl, Nat.le_of_ble_eq_true rfl⟩ rfl rfl rfl rfl rfl (Nat.le_of_ble_eq_true rfl) dX4_delete_22 ⟨Nat.le_of_ble_eq_true rfl, Nat.le_of_ble_eq_true rfl⟩ (fun x u H locs hpost hP hD hS => ?_)
      subst hpost
      have hP : va_P E.1 vwCl (wM E q z pa sl sv sp pd od pm ty om st wr) H := hP
      have hD : va_D A (wM E q z pa sl sv sp pd od pm ty om st wr) := hD
      refine lv_bipush (v := iI (-6)) hx hb dX4_delete_25 (by decide) ?_
      refine z_icmp_ne (tgt := 33) hx hb dX4_delete_27 (by decide) ⟨by first | omega | exact (hz _ _ (by omega)).1 | exact (hz _ _ (by omega)).2, by first | omega | exact (hz _ _ (by omega)).1 | exact (hz _ _ (by omega)).2⟩ ⟨by first | omega | exact (hz _ _ (by omega)).1 | exact (hz _ _ (by omega)).2, by first | omega | exact (hz _ _ (by omega)).1 | exact (hz _ _ (by omega)).2⟩ (fun c_27 => ?_) (fun c_27 => ?_)
      · refine lv_aload_n hx hb dX4_delete_33 rfl (lv_at hl 0 rfl) ?_
        refine z_callVv0 (ci := 4) (qk := 0) (As := []) (rest := []) hx hb hml hown hts hK hA hl.1 hP hD hS (c_X4_record l E q z pa sl sv sp pd od pm ty om st wr   (by first | omega | exact hz _ _ (by omega) | exact hz | exact ⟨by omega, by omega⟩ | exact hm | exact hcz | exact ⟨by omega, by omega⟩)) gX4_delete_X4_record rfl ndX4_record ⟨Nat.le_of_ble_eq_true rfl, Nat.le_of_ble_eq_true rfl⟩ rfl rfl rfl rfl rfl (Nat.le_of_ble_eq_true rfl) dX4_delete_34 ⟨Nat.le_of_ble_eq_true rfl, Nat.le_of_ble_eq_true rfl⟩ (fun u H locs hpost hP hD hS => ?_)
        have hP : va_P E.1 vwCl (wM E q z (recP z pa pm) sl sv sp pd od (recM pm) ty om st wr) H := hP
        have hD : va_D A (wM E q z (recP z pa pm) sl sv sp pd od (recM pm) ty om st wr) := hD
        refine lv_aload_n hx hb dX4_delete_37 rfl (lv_at hl 0 rfl) ?_
        refine lv_iload_n hx hb dX4_delete_38 rfl (lv_at hl 1 rfl) ?_
        refine lv_iload_n hx hb dX4_delete_39 rfl (lv_at hl 2 rfl) ?_
        refine z_callV0 (ci := 4) (qk := 0) (As := [.int (iI g), .int (iI n)]) (rest := []) hx hb hml hown hts hK hA hl.1 hP hD hS (c_X4_deleteIt l E q z (recP z pa pm) sl sv sp pd od (recM pm) ty om st wr g n  (by first | omega | exact hz _ _ (by omega) | exact hz | exact ⟨by omega, by omega⟩ | exact hm | exact hcz | exact ⟨by omega, by omega⟩) (by first | omega | exact hz _ _ (by omega) | exact hz | exact ⟨by omega, by omega⟩ | exact hm | exact hcz | exact ⟨by omega, by omega⟩) (by first | omega | exact hz _ _ (by omega) | exact hz | exact ⟨by omega, by omega⟩ | exact hm | exact hcz | exact ⟨by omega, by omega⟩) (by first | omega | exact hz _ _ (by omega) | exact hz | exact ⟨by omega, by omega⟩ | exact hm | exact hcz | exact ⟨by omega, by omega⟩) (by first | omega | exact hz _ _ (by omega) | exact hz | exact ⟨by omega, by omega⟩ | exact hm | exact hcz | exact ⟨by omega, by omega⟩) (by first | omega | exact hz _ _ (by omega) | exact hz | exact ⟨by omega, by omega⟩ | exact hm | exact hcz | exact ⟨by omega, by omega⟩)) gX4_delete_X4_deleteIt rfl ndX4_deleteIt ⟨Nat.le_of_ble_eq_true rfl, Nat.le_of_ble_eq_true rfl⟩ rfl rfl rfl rfl rfl (Nat.le_of_ble_eq_true rfl) dX4_delete_40 ⟨Nat.le_of_ble_eq_true rfl, Nat.le_of_ble_eq_true rfl⟩ (fun x u H locs hpost hP hD hS => ?_)
        subst hpost
        have hP : va_P E.1 vwCl (wM E q (mDel z g (mTold z g n)) (recP z pa pm) sl sv sp pd od (recM pm) ty om st wr) H := hP
        have hD : va_D A (wM E q (mDel z g (mTold z g n)) (recP z pa pm) sl sv sp pd od (recM pm) ty om st wr) := hD
        have eqc_z : (if 0 ≤ g ∧ g ≤ 5 ∧ -7 ≤ n ∧ n ≤ 1 ∧ ¬ mTold z g n = -6 then mDel z g (mTold z g n) else z) = mDel z g (mTold z g n) := by (first | rw [if_pos (by omega)] | rw [if_neg (by omega)])
        have eqc_pa : (if 0 ≤ g ∧ g ≤ 5 ∧ -7 ≤ n ∧ n ≤ 1 ∧ ¬ mTold z g n = -6 then recP z pa pm else pa) = recP z pa pm := by (first | rw [if_pos (by omega)] | rw [if_neg (by omega)])
        have eqc_pm : (if 0 ≤ g ∧ g ≤ 5 ∧ -7 ≤ n ∧ n ≤ 1 ∧ ¬ mTold z g n = -6 then recM pm else pm) = recM pm := by (first | rw [if_pos (by omega)] | rw [if_neg (by omega)])
        have hP : va_P E.1 vwCl (wM E q (if 0 ≤ g ∧ g ≤ 5 ∧ -7 ≤ n ∧ n ≤ 1 ∧ ¬ mTold z g n = -6 then mDel z g (mTold z g n) else z) (if 0 ≤ g ∧ g ≤ 5 ∧ -7 ≤ n ∧ n ≤ 1 ∧ ¬ mTold z g n = -6 then recP z pa pm else pa) sl sv sp pd od (if 0 ≤ g ∧ g ≤ 5 ∧ -7 ≤ n ∧ n ≤ 1 ∧ ¬ mTold z g n = -6 then recM pm else pm) ty om st wr) H := by rw [eqc_z, eqc_pa, eqc_pm]; exact hP
        have hD : va_D A (wM E q (if 0 ≤ g ∧ g ≤ 5 ∧ -7 ≤ n ∧ n ≤ 1 ∧ ¬ mTold z g n = -6 then mDel z g (mTold z g n) else z) (if 0 ≤ g ∧ g ≤ 5 ∧ -7 ≤ n ∧ n ≤ 1 ∧ ¬ mTold z g n = -6 then recP z pa pm else pa) sl sv sp pd od (if 0 ≤ g ∧ g ≤ 5 ∧ -7 ≤ n ∧ n ≤ 1 ∧ ¬ mTold z g n = -6 then recM pm else pm) ty om st wr) := by rw [eqc_z, eqc_pa, eqc_pm]; exact hD
        exact z_iret hx hb hr hlocks hK hS () (by (repeat (first | with_reducible rfl | rw [if_pos (by omega)] | rw [if_neg (by omega)]))) hP hD dX4_delete_43
      · refine lv_bipush (v := iI (-5)) hx hb dX4_delete_30 (by decide) ?_
        have eqc_z : (if 0 ≤ g ∧ g ≤ 5 ∧ -7 ≤ n ∧ n ≤ 1 ∧ ¬ mTold z g n = -6 then mDel z g (mTold z g n) else z) = z := by (first | rw [if_pos (by omega)] | rw [if_neg (by omega)])
        have eqc_pa : (if 0 ≤ g ∧ g ≤ 5 ∧ -7 ≤ n ∧ n ≤ 1 ∧ ¬ mTold z g n = -6 then recP z pa pm else pa) = pa := by (first | rw [if_pos (by omega)] | rw [if_neg (by omega)])
        have eqc_pm : (if 0 ≤ g ∧ g ≤ 5 ∧ -7 ≤ n ∧ n ≤ 1 ∧ ¬ mTold z g n = -6 then recM pm else pm) = pm := by (first | rw [if_pos (by omega)] | rw [if_neg (by omega)])
        have hP : va_P E.1 vwCl (wM E q (if 0 ≤ g ∧ g ≤ 5 ∧ -7 ≤ n ∧ n ≤ 1 ∧ ¬ mTold z g n = -6 then mDel z g (mTold z g n) else z) (if 0 ≤ g ∧ g ≤ 5 ∧ -7 ≤ n ∧ n ≤ 1 ∧ ¬ mTold z g n = -6 then recP z pa pm else pa) sl sv sp pd od (if 0 ≤ g ∧ g ≤ 5 ∧ -7 ≤ n ∧ n ≤ 1 ∧ ¬ mTold z g n = -6 then recM pm else pm) ty om st wr) H := by rw [eqc_z, eqc_pa, eqc_pm]; exact hP
        have hD : va_D A (wM E q (if 0 ≤ g ∧ g ≤ 5 ∧ -7 ≤ n ∧ n ≤ 1 ∧ ¬ mTold z g n = -6 then mDel z g (mTold z g n) else z) (if 0 ≤ g ∧ g ≤ 5 ∧ -7 ≤ n ∧ n ≤ 1 ∧ ¬ mTold z g n = -6 then recP z pa pm else pa) sl sv sp pd od (if 0 ≤ g ∧ g ≤ 5 ∧ -7 ≤ n ∧ n ≤ 1 ∧ ¬ mTold z g n = -6 then recM pm else pm) ty om st wr) := by rw [eqc_z, eqc_pa, eqc_pm]; exact hD
        exact z_iret hx hb hr hlocks hK hS () (by (repeat (first | with_reducible rfl | rw [if_pos (by omega)] | rw [if_neg (by omega)]))) hP hD dX4_delete_32
    · refine lv_bipush (v := iI (-2)) hx hb dX4_delete_16 (by decide) ?_
      have eqc_z : (if 0 ≤ g ∧ g ≤ 5 ∧ -7 ≤ n ∧ n ≤ 1 ∧ ¬ mTold z g n = -6 then mDel z g (mTold z g n) else z) = z := by (first | rw [if_pos (by omega)] | rw [if_neg (by omega)])
      have eqc_pa : (if 0 ≤ g ∧ g ≤ 5 ∧ -7 ≤ n ∧ n ≤ 1 ∧ ¬ mTold z g n = -6 then recP z pa pm else pa) = pa := by (first | rw [if_pos (by omega)] | rw [if_neg (by omega)])
      have eqc_pm : (if 0 ≤ g ∧ g ≤ 5 ∧ -7 ≤ n ∧ n ≤ 1 ∧ ¬ mTold z g n = -6 then recM pm else pm) = pm := by (first | rw [if_pos (by omega)] | rw [if_neg (by omega)])
      have hP : va_P E.1 vwCl (wM E q (if 0 ≤ g ∧ g ≤ 5 ∧ -7 ≤ n ∧ n ≤ 1 ∧ ¬ mTold z g n = -6 then mDel z g (mTold z g n) else z) (if 0 ≤ g ∧ g ≤ 5 ∧ -7 ≤ n ∧ n ≤ 1 ∧ ¬ mTold z g n = -6 then recP z pa pm else pa) sl sv sp pd od (if 0 ≤ g ∧ g ≤ 5 ∧ -7 ≤ n ∧ n ≤ 1 ∧ ¬ mTold z g n = -6 then recM pm else pm) ty om st wr) H := by rw [eqc_z, eqc_pa, eqc_pm]; exact hP
      have hD : va_D A (wM E q (if 0 ≤ g ∧ g ≤ 5 ∧ -7 ≤ n ∧ n ≤ 1 ∧ ¬ mTold z g n = -6 then mDel z g (mTold z g n) else z) (if 0 ≤ g ∧ g ≤ 5 ∧ -7 ≤ n ∧ n ≤ 1 ∧ ¬ mTold z g n = -6 then recP z pa pm else pa) sl sv sp pd od (if 0 ≤ g ∧ g ≤ 5 ∧ -7 ≤ n ∧ n ≤ 1 ∧ ¬ mTold z g n = -6 then recM pm else pm) ty om st wr) := by rw [eqc_z, eqc_pa, eqc_pm]; exact hD
      exact z_iret hx hb hr hlocks hK hS () (by (repeat (first | with_reducible rfl | rw [if_pos (by omega)] | rw [if_neg (by omega)]))) hP hD dX4_delete_18
  · refine lv_iconst (v := iI (-1)) hx hb dX4_delete_7 (by decide) ?_
    have eqc_z : (if 0 ≤ g ∧ g ≤ 5 ∧ -7 ≤ n ∧ n ≤ 1 ∧ ¬ mTold z g n = -6 then mDel z g (mTold z g n) else z) = z := by (first | rw [if_pos (by omega)] | rw [if_neg (by omega)])
    have eqc_pa : (if 0 ≤ g ∧ g ≤ 5 ∧ -7 ≤ n ∧ n ≤ 1 ∧ ¬ mTold z g n = -6 then recP z pa pm else pa) = pa := by (first | rw [if_pos (by omega)] | rw [if_neg (by omega)])
    have eqc_pm : (if 0 ≤ g ∧ g ≤ 5 ∧ -7 ≤ n ∧ n ≤ 1 ∧ ¬ mTold z g n = -6 then recM pm else pm) = pm := by (first | rw [if_pos (by omega)] | rw [if_neg (by omega)])
    have hP : va_P E.1 vwCl (wM E q (if 0 ≤ g ∧ g ≤ 5 ∧ -7 ≤ n ∧ n ≤ 1 ∧ ¬ mTold z g n = -6 then mDel z g (mTold z g n) else z) (if 0 ≤ g ∧ g ≤ 5 ∧ -7 ≤ n ∧ n ≤ 1 ∧ ¬ mTold z g n = -6 then recP z pa pm else pa) sl sv sp pd od (if 0 ≤ g ∧ g ≤ 5 ∧ -7 ≤ n ∧ n ≤ 1 ∧ ¬ mTold z g n = -6 then recM pm else pm) ty om st wr) H := by rw [eqc_z, eqc_pa, eqc_pm]; exact hP
    have hD : va_D A (wM E q (if 0 ≤ g ∧ g ≤ 5 ∧ -7 ≤ n ∧ n ≤ 1 ∧ ¬ mTold z g n = -6 then mDel z g (mTold z g n) else z) (if 0 ≤ g ∧ g ≤ 5 ∧ -7 ≤ n ∧ n ≤ 1 ∧ ¬ mTold z g n = -6 then recP z pa pm else pa) sl sv sp pd od (if 0 ≤ g ∧ g ≤ 5 ∧ -7 ≤ n ∧ n ≤ 1 ∧ ¬ mTold z g n = -6 then recM pm else pm) ty om st wr) := by rw [eqc_z, eqc_pa, eqc_pm]; exact hD
    exact z_iret hx hb hr hlocks hK hS () (by (repeat (first | with_reducible rfl | rw [if_pos (by omega)] | rw [if_neg (by omega)]))) hP hD dX4_delete_8

theorem ndX4_begin : yX4_begin.cls = RX4 ∧ yX4_begin.cls ≠ "java/lang/invoke/MethodHandle" ∧ yX4_begin.cls ≠ "java/lang/invoke/VarHandle" ∧ (parseMethodDescriptor yX4_begin.desc).map (fun d => d.parameters.length) = some 0 := by decide +kernel
set_option maxRecDepth 100000 in
set_option maxHeartbeats 200000 in
theorem c_X4_begin (l : Launch) (E : zE) (q : Nat → Nat) (z pa sl sv sp pd od : Int → Int) (pm ty om st wr : Int) (h0 : 0 ≤ pm ∧ pm ≤ 6) (h1 : MI z) : zF l E yX4_begin wsX4_begin 3 67 [.ref (q 0)] (wM E q z pa sl sv sp pd od pm ty om st wr) (if z 1 = 1 then -5 else (mBegin z) 0) (wM E q (if ¬ z 1 = 1 then mBegin z else z) (if ¬ z 1 = 1 then recP z pa pm else pa) sl sv sp pd od (if ¬ z 1 = 1 then recM pm else pm) ty om st wr) := by
  obtain ⟨hz, hmi, hb1, hb2, hb6⟩ := id h1
  have hm : AG z := fun g a b => (hmi g a b).1
  refine zC_of (cc := cX4_begin) (maxL := 1) (by decide) rfl (Nat.le_of_ble_eq_true rfl) ?_
  intro p e s m below meth c ls A hx hb hr hts hown hlocks hml hK hA hS hP hD hl
  have hown : s.vm.findClass RX4 = some m.cls := hown
  have hl : lv_has ls 1 [(0, .ref (q 0))] := hl
  refine lv_aload_n hx hb dX4_begin_0 rfl (lv_at hl 0 rfl) ?_
  refine z_callV0 (ci := 4) (qk := 0) (As := []) (rest := []) hx hb hml hown hts hK hA hl.1 hP hD hS (c_X4_runs l E q z pa sl sv sp pd od pm ty om st wr   (by first | omega | exact hz _ _ (by omega) | exact hz | exact ⟨by omega, by omega⟩ | exact hm | exact hcz | exact ⟨by omega, by omega⟩)) gX4_begin_X4_runs rfl ndX4_runs ⟨Nat.le_of_ble_eq_true rfl, Nat.le_of_ble_eq_true rfl⟩ rfl rfl rfl rfl rfl (Nat.le_of_ble_eq_true rfl) dX4_begin_1 ⟨Nat.le_of_ble_eq_true rfl, Nat.le_of_ble_eq_true rfl⟩ (fun x u H locs hpost hP hD hS => ?_)
  subst hpost
  have hP : va_P E.1 vwCl (wM E q z pa sl sv sp pd od pm ty om st wr) H := hP
  have hD : va_D A (wM E q z pa sl sv sp pd od pm ty om st wr) := hD
  refine z_ifb_eq (tgt := 10) hx hb dX4_begin_4 (by decide) (fun c_4 => ?_) (fun c_4 => ?_)
  · refine lv_aload_n hx hb dX4_begin_10 rfl (lv_at hl 0 rfl) ?_
    refine z_callVv0 (ci := 4) (qk := 0) (As := []) (rest := []) hx hb hml hown hts hK hA hl.1 hP hD hS (c_X4_record l E q z pa sl sv sp pd od pm ty om st wr   (by first | omega | exact hz _ _ (by omega) | exact hz | exact ⟨by omega, by omega⟩ | exact hm | exact hcz | exact ⟨by omega, by omega⟩)) gX4_begin_X4_record rfl ndX4_record ⟨Nat.le_of_ble_eq_true rfl, Nat.le_of_ble_eq_true rfl⟩ rfl rfl rfl rfl rfl (Nat.le_of_ble_eq_true rfl) dX4_begin_11 ⟨Nat.le_of_ble_eq_true rfl, Nat.le_of_ble_eq_true rfl⟩ (fun u H locs hpost hP hD hS => ?_)
    have hP : va_P E.1 vwCl (wM E q z (recP z pa pm) sl sv sp pd od (recM pm) ty om st wr) H := hP
    have hD : va_D A (wM E q z (recP z pa pm) sl sv sp pd od (recM pm) ty om st wr) := hD
    refine lv_aload_n hx hb dX4_begin_14 rfl (lv_at hl 0 rfl) ?_
    refine z_callV0 (ci := 4) (qk := 0) (As := []) (rest := []) hx hb hml hown hts hK hA hl.1 hP hD hS (c_X4_beginIt l E q z (recP z pa pm) sl sv sp pd od (recM pm) ty om st wr   (by first | omega | exact hz _ _ (by omega) | exact hz | exact ⟨by omega, by omega⟩ | exact hm | exact hcz | exact ⟨by omega, by omega⟩) (by first | omega | exact hz _ _ (by omega) | exact hz | exact ⟨by omega, by omega⟩ | exact hm | exact hcz | exact ⟨by omega, by omega⟩)) gX4_begin_X4_beginIt rfl ndX4_beginIt ⟨Nat.le_of_ble_eq_true rfl, Nat.le_of_ble_eq_true rfl⟩ rfl rfl rfl rfl rfl (Nat.le_of_ble_eq_true rfl) dX4_begin_15 ⟨Nat.le_of_ble_eq_true rfl, Nat.le_of_ble_eq_true rfl⟩ (fun x u H locs hpost hP hD hS => ?_)
    subst hpost
    have hP : va_P E.1 vwCl (wM E q (mBegin z) (recP z pa pm) sl sv sp pd od (recM pm) ty om st wr) H := hP
    have hD : va_D A (wM E q (mBegin z) (recP z pa pm) sl sv sp pd od (recM pm) ty om st wr) := hD
    have eqc_z : (if ¬ z 1 = 1 then mBegin z else z) = mBegin z := by (first | rw [if_pos (by omega)] | rw [if_neg (by omega)])
    have eqc_pa : (if ¬ z 1 = 1 then recP z pa pm else pa) = recP z pa pm := by (first | rw [if_pos (by omega)] | rw [if_neg (by omega)])
    have eqc_pm : (if ¬ z 1 = 1 then recM pm else pm) = recM pm := by (first | rw [if_pos (by omega)] | rw [if_neg (by omega)])
    have hP : va_P E.1 vwCl (wM E q (if ¬ z 1 = 1 then mBegin z else z) (if ¬ z 1 = 1 then recP z pa pm else pa) sl sv sp pd od (if ¬ z 1 = 1 then recM pm else pm) ty om st wr) H := by rw [eqc_z, eqc_pa, eqc_pm]; exact hP
    have hD : va_D A (wM E q (if ¬ z 1 = 1 then mBegin z else z) (if ¬ z 1 = 1 then recP z pa pm else pa) sl sv sp pd od (if ¬ z 1 = 1 then recM pm else pm) ty om st wr) := by rw [eqc_z, eqc_pa, eqc_pm]; exact hD
    exact z_iret hx hb hr hlocks hK hS () (by (repeat (first | with_reducible rfl | rw [if_pos (by omega)] | rw [if_neg (by omega)]))) hP hD dX4_begin_18
  · refine lv_bipush (v := iI (-5)) hx hb dX4_begin_7 (by decide) ?_
    have eqc_z : (if ¬ z 1 = 1 then mBegin z else z) = z := by (first | rw [if_pos (by omega)] | rw [if_neg (by omega)])
    have eqc_pa : (if ¬ z 1 = 1 then recP z pa pm else pa) = pa := by (first | rw [if_pos (by omega)] | rw [if_neg (by omega)])
    have eqc_pm : (if ¬ z 1 = 1 then recM pm else pm) = pm := by (first | rw [if_pos (by omega)] | rw [if_neg (by omega)])
    have hP : va_P E.1 vwCl (wM E q (if ¬ z 1 = 1 then mBegin z else z) (if ¬ z 1 = 1 then recP z pa pm else pa) sl sv sp pd od (if ¬ z 1 = 1 then recM pm else pm) ty om st wr) H := by rw [eqc_z, eqc_pa, eqc_pm]; exact hP
    have hD : va_D A (wM E q (if ¬ z 1 = 1 then mBegin z else z) (if ¬ z 1 = 1 then recP z pa pm else pa) sl sv sp pd od (if ¬ z 1 = 1 then recM pm else pm) ty om st wr) := by rw [eqc_z, eqc_pa, eqc_pm]; exact hD
    exact z_iret hx hb hr hlocks hK hS () (by (repeat (first | with_reducible rfl | rw [if_pos (by omega)] | rw [if_neg (by omega)]))) hP hD dX4_begin_9

theorem ndX4_end : yX4_end.cls = RX4 ∧ yX4_end.cls ≠ "java/lang/invoke/MethodHandle" ∧ yX4_end.cls ≠ "java/lang/invoke/VarHandle" ∧ (parseMethodDescriptor yX4_end.desc).map (fun d => d.parameters.length) = some 1 := by decide +kernel
set_option maxRecDepth 100000 in
set_option maxHeartbeats 200000 in
theorem c_X4_end (l : Launch) (E : zE) (q : Nat → Nat) (z pa sl sv sp pd od : Int → Int) (pm ty om st wr : Int) (w : Int) (h0 : rg w) (h1 : 0 ≤ pm ∧ pm ≤ 6) (h2 : MI z) : zF l E yX4_end wsX4_end 6 135 [.ref (q 0), .int (iI w)] (wM E q z pa sl sv sp pd od pm ty om st wr) (if ¬ (0 ≤ w ∧ w ≤ 1) then -2 else if ¬ z 1 = 1 then -5 else mMany7 (mFail z w)) (wM E q (if 0 ≤ w ∧ w ≤ 1 ∧ z 1 = 1 then mEnd z w else z) (if 0 ≤ w ∧ w ≤ 1 ∧ z 1 = 1 then recP z pa pm else pa) sl sv sp pd od (if 0 ≤ w ∧ w ≤ 1 ∧ z 1 = 1 then recM pm else pm) ty om st wr) := by
  obtain ⟨hz, hmi, hb1, hb2, hb6⟩ := id h2
  have hm : AG z := fun g a b => (hmi g a b).1
  refine zC_of (cc := cX4_end) (maxL := 2) (by decide) rfl (Nat.le_of_ble_eq_true rfl) ?_
  intro p e s m below meth c ls A hx hb hr hts hown hlocks hml hK hA hS hP hD hl
  have hown : s.vm.findClass RX4 = some m.cls := hown
  have hl : lv_has ls 2 [(0, .ref (q 0)), (1, .int (iI w))] := hl
  refine lv_iload_n hx hb dX4_end_0 rfl (lv_at hl 1 rfl) ?_
  refine lv_iconst (v := iI 0) hx hb dX4_end_1 (by decide) ?_
  refine lv_iconst (v := iI 1) hx hb dX4_end_2 (by decide) ?_
  refine z_callS0 (As := [.int (iI w), .int (iI 0), .int (iI 1)]) (rest := []) hx hb hml hown hts hK hA hl.1 hP hD hS (c_X4_in l E  w 0 1  (by first | omega | exact hz _ _ (by omega) | exact hz | exact ⟨by omega, by omega⟩ | exact hm | exact hcz | exact ⟨by omega, by omega⟩) (by first | omega | exact hz _ _ (by omega) | exact hz | exact ⟨by omega, by omega⟩ | exact hm | exact hcz | exact ⟨by omega, by omega⟩) (by first | omega | exact hz _ _ (by omega) | exact hz | exact ⟨by omega, by omega⟩ | exact hm | exact hcz | exact ⟨by omega, by omega⟩)) gX4_end_X4_in rfl ndX4_in ⟨Nat.le_of_ble_eq_true rfl, Nat.le_of_ble_eq_true rfl⟩ rfl rfl (Nat.le_of_ble_eq_true rfl) dX4_end_3 ⟨Nat.le_of_ble_eq_true rfl, Nat.le_of_ble_eq_true rfl⟩ (fun x H locs hpost hP hD hS => ?_)
  subst hpost
  refine z_ifb_ne (tgt := 12) hx hb dX4_end_6 (by decide) (fun c_6 => ?_) (fun c_6 => ?_)
  · refine lv_aload_n hx hb dX4_end_12 rfl (lv_at hl 0 rfl) ?_
    refine z_callV0 (ci := 4) (qk := 0) (As := []) (rest := []) hx hb hml hown hts hK hA hl.1 hP hD hS (c_X4_runs l E q z pa sl sv sp pd od pm ty om st wr   (by first | omega | exact hz _ _ (by omega) | exact hz | exact ⟨by omega, by omega⟩ | exact hm | exact hcz | exact ⟨by omega, by omega⟩)) gX4_end_X4_runs rfl ndX4_runs ⟨Nat.le_of_ble_eq_true rfl, Nat.le_of_ble_eq_true rfl⟩ rfl rfl rfl rfl rfl (Nat.le_of_ble_eq_true rfl) dX4_end_13 ⟨Nat.le_of_ble_eq_true rfl, Nat.le_of_ble_eq_true rfl⟩ (fun x u H locs hpost hP hD hS => ?_)
    subst hpost
    have hP : va_P E.1 vwCl (wM E q z pa sl sv sp pd od pm ty om st wr) H := hP
    have hD : va_D A (wM E q z pa sl sv sp pd od pm ty om st wr) := hD
    refine z_ifb_ne (tgt := 22) hx hb dX4_end_16 (by decide) (fun c_16 => ?_) (fun c_16 => ?_)
    · refine lv_aload_n hx hb dX4_end_22 rfl (lv_at hl 0 rfl) ?_
      refine z_callVv0 (ci := 4) (qk := 0) (As := []) (rest := []) hx hb hml hown hts hK hA hl.1 hP hD hS (c_X4_record l E q z pa sl sv sp pd od pm ty om st wr   (by first | omega | exact hz _ _ (by omega) | exact hz | exact ⟨by omega, by omega⟩ | exact hm | exact hcz | exact ⟨by omega, by omega⟩)) gX4_end_X4_record rfl ndX4_record ⟨Nat.le_of_ble_eq_true rfl, Nat.le_of_ble_eq_true rfl⟩ rfl rfl rfl rfl rfl (Nat.le_of_ble_eq_true rfl) dX4_end_23 ⟨Nat.le_of_ble_eq_true rfl, Nat.le_of_ble_eq_true rfl⟩ (fun u H locs hpost hP hD hS => ?_)
      have hP : va_P E.1 vwCl (wM E q z (recP z pa pm) sl sv sp pd od (recM pm) ty om st wr) H := hP
      have hD : va_D A (wM E q z (recP z pa pm) sl sv sp pd od (recM pm) ty om st wr) := hD
      refine lv_aload_n hx hb dX4_end_26 rfl (lv_at hl 0 rfl) ?_
      refine lv_iload_n hx hb dX4_end_27 rfl (lv_at hl 1 rfl) ?_
      refine z_callV0 (ci := 4) (qk := 0) (As := [.int (iI w)]) (rest := []) hx hb hml hown hts hK hA hl.1 hP hD hS (c_X4_endIt l E q z (recP z pa pm) sl sv sp pd od (recM pm) ty om st wr w  (by first | omega | exact hz _ _ (by omega) | exact hz | exact ⟨by omega, by omega⟩ | exact hm | exact hcz | exact ⟨by omega, by omega⟩) (by first | omega | exact hz _ _ (by omega) | exact hz | exact ⟨by omega, by omega⟩ | exact hm | exact hcz | exact ⟨by omega, by omega⟩) (by first | omega | exact hz _ _ (by omega) | exact hz | exact ⟨by omega, by omega⟩ | exact hm | exact hcz | exact ⟨by omega, by omega⟩) (by first | omega | exact hz _ _ (by omega) | exact hz | exact ⟨by omega, by omega⟩ | exact hm | exact hcz | exact ⟨by omega, by omega⟩)) gX4_end_X4_endIt rfl ndX4_endIt ⟨Nat.le_of_ble_eq_true rfl, Nat.le_of_ble_eq_true rfl⟩ rfl rfl rfl rfl rfl (Nat.le_of_ble_eq_true rfl) dX4_end_28 ⟨Nat.le_of_ble_eq_true rfl, Nat.le_of_ble_eq_true rfl⟩ (fun x u H locs hpost hP hD hS => ?_)
      subst hpost
      have hP : va_P E.1 vwCl (wM E q (mEnd z w) (recP z pa pm) sl sv sp pd od (recM pm) ty om st wr) H := hP
      have hD : va_D A (wM E q (mEnd z w) (recP z pa pm) sl sv sp pd od (recM pm) ty om st wr) := hD
      have eqc_z : (if 0 ≤ w ∧ w ≤ 1 ∧ z 1 = 1 then mEnd z w else z) = mEnd z w := by (first | rw [if_pos (by omega)] | rw [if_neg (by omega)])
      have eqc_pa : (if 0 ≤ w ∧ w ≤ 1 ∧ z 1 = 1 then recP z pa pm else pa) = recP z pa pm := by (first | rw [if_pos (by omega)] | rw [if_neg (by omega)])
      have eqc_pm : (if 0 ≤ w ∧ w ≤ 1 ∧ z 1 = 1 then recM pm else pm) = recM pm := by (first | rw [if_pos (by omega)] | rw [if_neg (by omega)])
      have hP : va_P E.1 vwCl (wM E q (if 0 ≤ w ∧ w ≤ 1 ∧ z 1 = 1 then mEnd z w else z) (if 0 ≤ w ∧ w ≤ 1 ∧ z 1 = 1 then recP z pa pm else pa) sl sv sp pd od (if 0 ≤ w ∧ w ≤ 1 ∧ z 1 = 1 then recM pm else pm) ty om st wr) H := by rw [eqc_z, eqc_pa, eqc_pm]; exact hP
      have hD : va_D A (wM E q (if 0 ≤ w ∧ w ≤ 1 ∧ z 1 = 1 then mEnd z w else z) (if 0 ≤ w ∧ w ≤ 1 ∧ z 1 = 1 then recP z pa pm else pa) sl sv sp pd od (if 0 ≤ w ∧ w ≤ 1 ∧ z 1 = 1 then recM pm else pm) ty om st wr) := by rw [eqc_z, eqc_pa, eqc_pm]; exact hD
      exact z_iret hx hb hr hlocks hK hS () (by (repeat (first | with_reducible rfl | rw [if_pos (by omega)] | rw [if_neg (by omega)]))) hP hD dX4_end_31
    · refine lv_bipush (v := iI (-5)) hx hb dX4_end_19 (by decide) ?_
      have eqc_z : (if 0 ≤ w ∧ w ≤ 1 ∧ z 1 = 1 then mEnd z w else z) = z := by (first | rw [if_pos (by omega)] | rw [if_neg (by omega)])
      have eqc_pa : (if 0 ≤ w ∧ w ≤ 1 ∧ z 1 = 1 then recP z pa pm else pa) = pa := by (first | rw [if_pos (by omega)] | rw [if_neg (by omega)])
      have eqc_pm : (if 0 ≤ w ∧ w ≤ 1 ∧ z 1 = 1 then recM pm else pm) = pm := by (first | rw [if_pos (by omega)] | rw [if_neg (by omega)])
      have hP : va_P E.1 vwCl (wM E q (if 0 ≤ w ∧ w ≤ 1 ∧ z 1 = 1 then mEnd z w else z) (if 0 ≤ w ∧ w ≤ 1 ∧ z 1 = 1 then recP z pa pm else pa) sl sv sp pd od (if 0 ≤ w ∧ w ≤ 1 ∧ z 1 = 1 then recM pm else pm) ty om st wr) H := by rw [eqc_z, eqc_pa, eqc_pm]; exact hP
      have hD : va_D A (wM E q (if 0 ≤ w ∧ w ≤ 1 ∧ z 1 = 1 then mEnd z w else z) (if 0 ≤ w ∧ w ≤ 1 ∧ z 1 = 1 then recP z pa pm else pa) sl sv sp pd od (if 0 ≤ w ∧ w ≤ 1 ∧ z 1 = 1 then recM pm else pm) ty om st wr) := by rw [eqc_z, eqc_pa, eqc_pm]; exact hD
      exact z_iret hx hb hr hlocks hK hS () (by (repeat (first | with_reducible rfl | rw [if_pos (by omega)] | rw [if_neg (by omega)]))) hP hD dX4_end_21
  · refine lv_bipush (v := iI (-2)) hx hb dX4_end_9 (by decide) ?_
    have eqc_z : (if 0 ≤ w ∧ w ≤ 1 ∧ z 1 = 1 then mEnd z w else z) = z := by (first | rw [if_pos (by omega)] | rw [if_neg (by omega)])
    have eqc_pa : (if 0 ≤ w ∧ w ≤ 1 ∧ z 1 = 1 then recP z pa pm else pa) = pa := by (first | rw [if_pos (by omega)] | rw [if_neg (by omega)])
    have eqc_pm : (if 0 ≤ w ∧ w ≤ 1 ∧ z 1 = 1 then recM pm else pm) = pm := by (first | rw [if_pos (by omega)] | rw [if_neg (by omega)])
    have hP : va_P E.1 vwCl (wM E q (if 0 ≤ w ∧ w ≤ 1 ∧ z 1 = 1 then mEnd z w else z) (if 0 ≤ w ∧ w ≤ 1 ∧ z 1 = 1 then recP z pa pm else pa) sl sv sp pd od (if 0 ≤ w ∧ w ≤ 1 ∧ z 1 = 1 then recM pm else pm) ty om st wr) H := by rw [eqc_z, eqc_pa, eqc_pm]; exact hP
    have hD : va_D A (wM E q (if 0 ≤ w ∧ w ≤ 1 ∧ z 1 = 1 then mEnd z w else z) (if 0 ≤ w ∧ w ≤ 1 ∧ z 1 = 1 then recP z pa pm else pa) sl sv sp pd od (if 0 ≤ w ∧ w ≤ 1 ∧ z 1 = 1 then recM pm else pm) ty om st wr) := by rw [eqc_z, eqc_pa, eqc_pm]; exact hD
    exact z_iret hx hb hr hlocks hK hS () (by (repeat (first | with_reducible rfl | rw [if_pos (by omega)] | rw [if_neg (by omega)]))) hP hD dX4_end_11

theorem ndX4_again : yX4_again.cls = RX4 ∧ yX4_again.cls ≠ "java/lang/invoke/MethodHandle" ∧ yX4_again.cls ≠ "java/lang/invoke/VarHandle" ∧ (parseMethodDescriptor yX4_again.desc).map (fun d => d.parameters.length) = some 0 := by decide +kernel
set_option maxRecDepth 100000 in
set_option maxHeartbeats 200000 in
theorem c_X4_again (l : Launch) (E : zE) (q : Nat → Nat) (z pa sl sv sp pd od : Int → Int) (pm ty om st wr : Int) (h0 : 0 ≤ pm ∧ pm ≤ 6) (h1 : MI z) : zF l E yX4_again wsX4_again 2 44 [.ref (q 0)] (wM E q z pa sl sv sp pd od pm ty om st wr) (if ¬ (¬ z 1 = 1 ∧ z 2 = 1) then -5 else (mStart z) 0) (wM E q (if ¬ z 1 = 1 ∧ z 2 = 1 then mStart z else z) (if ¬ z 1 = 1 ∧ z 2 = 1 then recP z pa pm else pa) sl sv sp pd od (if ¬ z 1 = 1 ∧ z 2 = 1 then recM pm else pm) ty om st wr) := by
  obtain ⟨hz, hmi, hb1, hb2, hb6⟩ := id h1
  have hm : AG z := fun g a b => (hmi g a b).1
  refine zC_of (cc := cX4_again) (maxL := 1) (by decide) rfl (Nat.le_of_ble_eq_true rfl) ?_
  intro p e s m below meth c ls A hx hb hr hts hown hlocks hml hK hA hS hP hD hl
  have hown : s.vm.findClass RX4 = some m.cls := hown
  have hl : lv_has ls 1 [(0, .ref (q 0))] := hl
  refine lv_aload_n hx hb dX4_again_0 rfl (lv_at hl 0 rfl) ?_
  refine z_callV0 (ci := 4) (qk := 0) (As := []) (rest := []) hx hb hml hown hts hK hA hl.1 hP hD hS (c_X4_canAgain l E q z pa sl sv sp pd od pm ty om st wr   (by first | omega | exact hz _ _ (by omega) | exact hz | exact ⟨by omega, by omega⟩ | exact hm | exact hcz | exact ⟨by omega, by omega⟩) (by first | omega | exact hz _ _ (by omega) | exact hz | exact ⟨by omega, by omega⟩ | exact hm | exact hcz | exact ⟨by omega, by omega⟩)) gX4_again_X4_canAgain rfl ndX4_canAgain ⟨Nat.le_of_ble_eq_true rfl, Nat.le_of_ble_eq_true rfl⟩ rfl rfl rfl rfl rfl (Nat.le_of_ble_eq_true rfl) dX4_again_1 ⟨Nat.le_of_ble_eq_true rfl, Nat.le_of_ble_eq_true rfl⟩ (fun x u H locs hpost hP hD hS => ?_)
  subst hpost
  have hP : va_P E.1 vwCl (wM E q z pa sl sv sp pd od pm ty om st wr) H := hP
  have hD : va_D A (wM E q z pa sl sv sp pd od pm ty om st wr) := hD
  refine z_ifb_ne (tgt := 10) hx hb dX4_again_4 (by decide) (fun c_4 => ?_) (fun c_4 => ?_)
  · refine lv_aload_n hx hb dX4_again_10 rfl (lv_at hl 0 rfl) ?_
    refine z_callVv0 (ci := 4) (qk := 0) (As := []) (rest := []) hx hb hml hown hts hK hA hl.1 hP hD hS (c_X4_record l E q z pa sl sv sp pd od pm ty om st wr   (by first | omega | exact hz _ _ (by omega) | exact hz | exact ⟨by omega, by omega⟩ | exact hm | exact hcz | exact ⟨by omega, by omega⟩)) gX4_again_X4_record rfl ndX4_record ⟨Nat.le_of_ble_eq_true rfl, Nat.le_of_ble_eq_true rfl⟩ rfl rfl rfl rfl rfl (Nat.le_of_ble_eq_true rfl) dX4_again_11 ⟨Nat.le_of_ble_eq_true rfl, Nat.le_of_ble_eq_true rfl⟩ (fun u H locs hpost hP hD hS => ?_)
    have hP : va_P E.1 vwCl (wM E q z (recP z pa pm) sl sv sp pd od (recM pm) ty om st wr) H := hP
    have hD : va_D A (wM E q z (recP z pa pm) sl sv sp pd od (recM pm) ty om st wr) := hD
    refine lv_aload_n hx hb dX4_again_14 rfl (lv_at hl 0 rfl) ?_
    refine z_callV0 (ci := 4) (qk := 0) (As := []) (rest := []) hx hb hml hown hts hK hA hl.1 hP hD hS (c_X4_start l E q z (recP z pa pm) sl sv sp pd od (recM pm) ty om st wr   ) gX4_again_X4_start rfl ndX4_start ⟨Nat.le_of_ble_eq_true rfl, Nat.le_of_ble_eq_true rfl⟩ rfl rfl rfl rfl rfl (Nat.le_of_ble_eq_true rfl) dX4_again_15 ⟨Nat.le_of_ble_eq_true rfl, Nat.le_of_ble_eq_true rfl⟩ (fun x u H locs hpost hP hD hS => ?_)
    subst hpost
    have hP : va_P E.1 vwCl (wM E q (mStart z) (recP z pa pm) sl sv sp pd od (recM pm) ty om st wr) H := hP
    have hD : va_D A (wM E q (mStart z) (recP z pa pm) sl sv sp pd od (recM pm) ty om st wr) := hD
    have eqc_z : (if ¬ z 1 = 1 ∧ z 2 = 1 then mStart z else z) = mStart z := by (first | rw [if_pos (by omega)] | rw [if_neg (by omega)])
    have eqc_pa : (if ¬ z 1 = 1 ∧ z 2 = 1 then recP z pa pm else pa) = recP z pa pm := by (first | rw [if_pos (by omega)] | rw [if_neg (by omega)])
    have eqc_pm : (if ¬ z 1 = 1 ∧ z 2 = 1 then recM pm else pm) = recM pm := by (first | rw [if_pos (by omega)] | rw [if_neg (by omega)])
    have hP : va_P E.1 vwCl (wM E q (if ¬ z 1 = 1 ∧ z 2 = 1 then mStart z else z) (if ¬ z 1 = 1 ∧ z 2 = 1 then recP z pa pm else pa) sl sv sp pd od (if ¬ z 1 = 1 ∧ z 2 = 1 then recM pm else pm) ty om st wr) H := by rw [eqc_z, eqc_pa, eqc_pm]; exact hP
    have hD : va_D A (wM E q (if ¬ z 1 = 1 ∧ z 2 = 1 then mStart z else z) (if ¬ z 1 = 1 ∧ z 2 = 1 then recP z pa pm else pa) sl sv sp pd od (if ¬ z 1 = 1 ∧ z 2 = 1 then recM pm else pm) ty om st wr) := by rw [eqc_z, eqc_pa, eqc_pm]; exact hD
    exact z_iret hx hb hr hlocks hK hS () (by (repeat (first | with_reducible rfl | rw [if_pos (by omega)] | rw [if_neg (by omega)]))) hP hD dX4_again_18
  · refine lv_bipush (v := iI (-5)) hx hb dX4_again_7 (by decide) ?_
    have eqc_z : (if ¬ z 1 = 1 ∧ z 2 = 1 then mStart z else z) = z := by (first | rw [if_pos (by omega)] | rw [if_neg (by omega)])
    have eqc_pa : (if ¬ z 1 = 1 ∧ z 2 = 1 then recP z pa pm else pa) = pa := by (first | rw [if_pos (by omega)] | rw [if_neg (by omega)])
    have eqc_pm : (if ¬ z 1 = 1 ∧ z 2 = 1 then recM pm else pm) = pm := by (first | rw [if_pos (by omega)] | rw [if_neg (by omega)])
    have hP : va_P E.1 vwCl (wM E q (if ¬ z 1 = 1 ∧ z 2 = 1 then mStart z else z) (if ¬ z 1 = 1 ∧ z 2 = 1 then recP z pa pm else pa) sl sv sp pd od (if ¬ z 1 = 1 ∧ z 2 = 1 then recM pm else pm) ty om st wr) H := by rw [eqc_z, eqc_pa, eqc_pm]; exact hP
    have hD : va_D A (wM E q (if ¬ z 1 = 1 ∧ z 2 = 1 then mStart z else z) (if ¬ z 1 = 1 ∧ z 2 = 1 then recP z pa pm else pa) sl sv sp pd od (if ¬ z 1 = 1 ∧ z 2 = 1 then recM pm else pm) ty om st wr) := by rw [eqc_z, eqc_pa, eqc_pm]; exact hD
    exact z_iret hx hb hr hlocks hK hS () (by (repeat (first | with_reducible rfl | rw [if_pos (by omega)] | rw [if_neg (by omega)]))) hP hD dX4_again_9
