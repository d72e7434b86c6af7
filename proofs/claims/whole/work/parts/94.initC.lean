/-- the states that are made so far -/
def sl0 (E : zE) (ss : Nat → Nat → Nat) : Nat → va_W
  | 0 => []
  | n + 1 => sl0 E ss n ++ wSt E (ss n) 0 0 0 0 0 0 G0i
theorem sl0_congr {E : zE} {gs gs' : Nat → Nat → Nat} : ∀ n : Nat, (∀ k, k < n → gs k = gs' k) → sl0 E gs n = sl0 E gs' n
  | 0, _ => rfl
  | n + 1, h => by
    show sl0 E gs n ++ wSt E (gs n) 0 0 0 0 0 0 G0i = sl0 E gs' n ++ wSt E (gs' n) 0 0 0 0 0 0 G0i
    rw [sl0_congr n (fun k hk => h k (by omega)), h n (by omega)]
def N0i : zSt := mkN 0 0 0 0 0 0 G0i
def hv0 : Int → zSt := fun _ => N0i
def ssI (ss : Nat → Nat → Nat) : Int → Nat → Nat := fun i => ss i.toNat
theorem sl0_7 {E : zE} {ss : Nat → Nat → Nat} : sl0 E ss 7 = wHs E (ssI ss) hv0 := by
  have e : ∀ i : Int, wV E (ssI ss i) (hv0 i) = wSt E (ss i.toNat) 0 0 0 0 0 0 G0i := fun i => rfl
  unfold wHs seven
  simp only [e, List.flatMap_cons, List.flatMap_nil]
  unfold sl0 sl0 sl0 sl0 sl0 sl0 sl0 sl0
  simp only [List.append_assoc, List.nil_append, List.append_nil]
  rfl
theorem sl0_2 {E : zE} {ss : Nat → Nat → Nat} : sl0 E ss 2 = wSs E (ssI ss) hv0 := by
  have e : ∀ i : Int, wV E (ssI ss i) (hv0 i) = wSt E (ss i.toNat) 0 0 0 0 0 0 G0i := fun i => rfl
  unfold wSs duo
  simp only [e, List.flatMap_cons, List.flatMap_nil]
  unfold sl0 sl0 sl0
  simp only [List.append_assoc, List.nil_append, List.append_nil]
  rfl
def mnb (h0 hq sq vq : Nat) (pp : Nat → Nat) : Nat → Nat := fun j => if j = 0 then h0 else if j = 1 then hq else if j = 2 then sq else if j = 3 then vq else pp (j - 4)
theorem pm_row {L R S x : va_W} : (L ++ (x ++ (R ++ S))).Perm (L ++ (R ++ (S ++ x))) := by
  refine List.Perm.append_left _ ?_
  rw [← List.append_assoc R S x]
  exact List.perm_append_comm
set_option maxRecDepth 100000 in
set_option maxHeartbeats 2000000 in
/-- GenerationNames() -/
theorem c_X3_init (l : Launch) (E : zE) : zI l E yX3_init wsX3_init 3 110 265 2263 3 [.null, .null, .int (iI 0), .null, .null, .null] (fun u : ((Nat → Nat) × (Nat → Nat) × (Int → Nat → Nat) × (Int → Nat → Nat)) => u.1 0) (fun u : ((Nat → Nat) × (Nat → Nat) × (Int → Nat → Nat) × (Int → Nat → Nat)) => wN E u.1 u.2.1 u.2.2.1 u.2.2.2 0 z0 z0 0 hv0 hv0 0 0 0 0 0 0 G0i) := by
  refine zI_of (cc := cX3_init) (maxL := 2) (by decide) rfl (Nat.le_of_ble_eq_true rfl) rfl ?_
  intro h0 p e s m below meth c ls A hx hb hr hts hown hlocks hin hml hK hAO hA hS hP hD hl
  have hown : s.vm.findClass RX3 = some m.cls := hown
  have hinX3 : ∀ v ∈ u_ws RX3 TX3 6, v ∈ wsX3_init := by decide +kernel
  refine lv_aload_n hx hb dX3_init_0 rfl (lv_at hl 0 rfl) ?_
  refine W.objInit hx hb hown (hts (.methodLink RX3 3 objectInit) (by decide +kernel)) (hts (.instanceMethod objectInit) (by decide +kernel)) (hts (.code objectInit ⟨#[0xb1]⟩ 1 none) (by decide +kernel)) rfl (by rw [hml]; exact hl.1) rfl dX3_init_1 (Nat.le_of_ble_eq_true rfl) (Nat.le_of_ble_eq_true rfl) ?_
  refine W.eq (g2 := F0 m 4 ls []) rfl ?_
  refine lv_aload_n hx hb dX3_init_4 rfl (lv_at hl 0 rfl) ?_
  refine z_make (own := RX3) (T := TX2) (N := 7) (ci := 2) (bytes := cX2_init) hx hb hml hown hts (by decide +kernel) tyX2 tyX2_ok (hts (.classLink RX3 9 RX2) (by decide +kernel)) (hts (.instantiable RX2 7) (by decide +kernel)) (hts (.initialized RX2) (by decide +kernel)) (hts (.methodLink RX3 11 yX2_init) (by decide +kernel)) (hts (.instanceMethod yX2_init) (by decide +kernel)) hK hAO hA hl.1 hP hD hS rfl (fun j hj => by rcases (show j = 0 ∨ j = 1 ∨ j = 2 ∨ j = 3 ∨ j = 4 ∨ j = 5 ∨ j = 6 by omega) with rfl | rfl | rfl | rfl | rfl | rfl | rfl <;> rfl) (c_X2_init l E) gX3_init_X2_init rfl rfl rfl ⟨by decide +kernel, by decide +kernel, by decide +kernel⟩ ⟨Nat.le_of_ble_eq_true rfl, Nat.le_of_ble_eq_true rfl⟩ (fun _ => Nat.le_of_ble_eq_true rfl) (Nat.le_of_ble_eq_true rfl) (Nat.le_of_ble_eq_true rfl) dX3_init_5 dX3_init_8 dX3_init_9 (fun nn H locs hP hD hS => ?_)
  have hP : va_P E.1 vwCl ([(h0, .inr (3, [.null, .null, .int (iI 0), .null, .null, .null]))] ++ wSt E nn 0 0 0 0 0 0 G0i) H := zP_perm hP List.perm_append_comm
  have hD : va_D A ([(h0, .inr (3, [.null, .null, .int (iI 0), .null, .null, .null]))] ++ wSt E nn 0 0 0 0 0 0 G0i) := zD_perm hD List.perm_append_comm
  refine W.widen (k := 26) (n := 217) (Nat.le_of_ble_eq_true rfl) (Nat.le_of_ble_eq_true rfl) ?_
  refine va_putF (D := E.1) (cl := vwCl) (ci := 3) (v := .ref (nn 0)) (ty := tyX3 0) (C := RX3) (T := TX3) (N := 6) hx hb hts hinX3 tyX3 tyX3_ok nmX3 hown hK hP hD hS 0 rfl rfl 0 (by decide) (hts (.fieldLink RX3 12 "GenerationNames" "now" "LGenerationNames$State;") (by decide +kernel)) (fun _ h => h) rfl hin rfl (tyX3_ok 0 (by decide)) rfl rfl (Nat.le_of_ble_eq_true rfl) dX3_init_12 (fun H locs hP hD hS => ?_)
  have hP : va_P E.1 vwCl ([(h0, .inr (3, [.ref (nn 0), .null, .int (iI 0), .null, .null, .null]))] ++ wSt E nn 0 0 0 0 0 0 G0i) H := hP
  have hD : va_D A ([(h0, .inr (3, [.ref (nn 0), .null, .int (iI 0), .null, .null, .null]))] ++ wSt E nn 0 0 0 0 0 0 G0i) := hD
  refine lv_aload_n hx hb dX3_init_15 rfl (lv_at hl 0 rfl) ?_
  refine lv_bipush (v := iI 7) hx hb dX3_init_16 (by decide) ?_
  refine z_newq hx hb hown (hts (.classLink RX3 9 RX2) (by decide +kernel)) hAO.2.1 hK 4 rfl hP hD hS hA (by omega) (by omega) rfl (Nat.le_of_ble_eq_true rfl) (Nat.le_of_ble_eq_true rfl) (Nat.le_of_ble_eq_true rfl) dX3_init_18 (fun hq H hP hD hS => ?_)
  have hP : va_P E.1 vwCl ([(h0, .inr (3, [.ref (nn 0), .null, .int (iI 0), .null, .null, .null])), (hq, .inl (E.2 4, 7, .inr (.inr (.inr (.inr (fun _ => none))))))] ++ wSt E nn 0 0 0 0 0 0 G0i) H := zP_perm hP pm_end
  have hD : va_D A ([(h0, .inr (3, [.ref (nn 0), .null, .int (iI 0), .null, .null, .null])), (hq, .inl (E.2 4, 7, .inr (.inr (.inr (.inr (fun _ => none))))))] ++ wSt E nn 0 0 0 0 0 0 G0i) := zD_perm hD pm_end
  refine W.widen (k := 27) (n := 224) (Nat.le_of_ble_eq_true rfl) (Nat.le_of_ble_eq_true rfl) ?_
  refine va_putF (D := E.1) (cl := vwCl) (ci := 3) (v := .ref hq) (ty := tyX3 1) (C := RX3) (T := TX3) (N := 6) hx hb hts hinX3 tyX3 tyX3_ok nmX3 hown hK hP hD hS 0 rfl rfl 1 (by decide) (hts (.fieldLink RX3 16 "GenerationNames" "history" "[LGenerationNames$State;") (by decide +kernel)) (fun _ h => h) rfl hin rfl (tyX3_ok 1 (by decide)) rfl rfl (Nat.le_of_ble_eq_true rfl) dX3_init_21 (fun H locs hP hD hS => ?_)
  have hP : va_P E.1 vwCl ([(h0, .inr (3, [.ref (nn 0), .ref hq, .int (iI 0), .null, .null, .null])), (hq, .inl (E.2 4, 7, .inr (.inr (.inr (.inr (fun _ => none))))))] ++ wSt E nn 0 0 0 0 0 0 G0i) H := hP
  have hD : va_D A ([(h0, .inr (3, [.ref (nn 0), .ref hq, .int (iI 0), .null, .null, .null])), (hq, .inl (E.2 4, 7, .inr (.inr (.inr (.inr (fun _ => none))))))] ++ wSt E nn 0 0 0 0 0 0 G0i) := hD
  refine lv_aload_n hx hb dX3_init_24 rfl (lv_at hl 0 rfl) ?_
  refine lv_iconst (v := iI 0) hx hb dX3_init_25 (by decide) ?_
  refine va_put (D := E.1) (cl := vwCl) (ci := 3) (v := .int (iI 0)) (ty := tyX3 2) (C := RX3) (T := TX3) (N := 6) hx hb hts hinX3 tyX3 tyX3_ok nmX3 hown hK hP hD hS 0 rfl rfl 2 (by decide) (hts (.fieldLink RX3 20 "GenerationNames" "undoable" "I") (by decide +kernel)) (fun _ h => h) rfl (tyX3_ok 2 (by decide)) rfl rfl (Nat.le_of_ble_eq_true rfl) dX3_init_26 (fun H locs hP hD hS => ?_)
  have hP : va_P E.1 vwCl ([(h0, .inr (3, [.ref (nn 0), .ref hq, .int (iI 0), .null, .null, .null])), (hq, .inl (E.2 4, 7, .inr (.inr (.inr (.inr (fun _ => none))))))] ++ wSt E nn 0 0 0 0 0 0 G0i) H := hP
  have hD : va_D A ([(h0, .inr (3, [.ref (nn 0), .ref hq, .int (iI 0), .null, .null, .null])), (hq, .inl (E.2 4, 7, .inr (.inr (.inr (.inr (fun _ => none))))))] ++ wSt E nn 0 0 0 0 0 0 G0i) := hD
  refine lv_aload_n hx hb dX3_init_29 rfl (lv_at hl 0 rfl) ?_
  refine lv_iconst (v := iI 2) hx hb dX3_init_30 (by decide) ?_
  refine z_newq hx hb hown (hts (.classLink RX3 9 RX2) (by decide +kernel)) hAO.2.1 hK 4 rfl hP hD hS hA (by omega) (by omega) rfl (Nat.le_of_ble_eq_true rfl) (Nat.le_of_ble_eq_true rfl) (Nat.le_of_ble_eq_true rfl) dX3_init_31 (fun sq H hP hD hS => ?_)
  have hP : va_P E.1 vwCl ([(h0, .inr (3, [.ref (nn 0), .ref hq, .int (iI 0), .null, .null, .null])), (hq, .inl (E.2 4, 7, .inr (.inr (.inr (.inr (fun _ => none)))))), (sq, .inl (E.2 4, 2, .inr (.inr (.inr (.inr (fun _ => none))))))] ++ wSt E nn 0 0 0 0 0 0 G0i) H := zP_perm hP pm_end
  have hD : va_D A ([(h0, .inr (3, [.ref (nn 0), .ref hq, .int (iI 0), .null, .null, .null])), (hq, .inl (E.2 4, 7, .inr (.inr (.inr (.inr (fun _ => none)))))), (sq, .inl (E.2 4, 2, .inr (.inr (.inr (.inr (fun _ => none))))))] ++ wSt E nn 0 0 0 0 0 0 G0i) := zD_perm hD pm_end
  refine W.widen (k := 28) (n := 226) (Nat.le_of_ble_eq_true rfl) (Nat.le_of_ble_eq_true rfl) ?_
  refine va_putF (D := E.1) (cl := vwCl) (ci := 3) (v := .ref sq) (ty := tyX3 3) (C := RX3) (T := TX3) (N := 6) hx hb hts hinX3 tyX3 tyX3_ok nmX3 hown hK hP hD hS 0 rfl rfl 3 (by decide) (hts (.fieldLink RX3 24 "GenerationNames" "slots" "[LGenerationNames$State;") (by decide +kernel)) (fun _ h => h) rfl hin rfl (tyX3_ok 3 (by decide)) rfl rfl (Nat.le_of_ble_eq_true rfl) dX3_init_34 (fun H locs hP hD hS => ?_)
  have hP : va_P E.1 vwCl ([(h0, .inr (3, [.ref (nn 0), .ref hq, .int (iI 0), .ref sq, .null, .null])), (hq, .inl (E.2 4, 7, .inr (.inr (.inr (.inr (fun _ => none)))))), (sq, .inl (E.2 4, 2, .inr (.inr (.inr (.inr (fun _ => none))))))] ++ wSt E nn 0 0 0 0 0 0 G0i) H := hP
  have hD : va_D A ([(h0, .inr (3, [.ref (nn 0), .ref hq, .int (iI 0), .ref sq, .null, .null])), (hq, .inl (E.2 4, 7, .inr (.inr (.inr (.inr (fun _ => none)))))), (sq, .inl (E.2 4, 2, .inr (.inr (.inr (.inr (fun _ => none))))))] ++ wSt E nn 0 0 0 0 0 0 G0i) := hD
  refine lv_aload_n hx hb dX3_init_37 rfl (lv_at hl 0 rfl) ?_
  refine lv_iconst (v := iI 2) hx hb dX3_init_38 (by decide) ?_
  refine z_newa (atype := .boolean) (ty := .boolean) hx hb (hts (.arrayClass .boolean) (by decide +kernel)) rfl (fun _ _ h => h) hK 1 rfl hP hD hS hA (by omega) (by omega) rfl rfl (Nat.le_of_ble_eq_true rfl) (Nat.le_of_ble_eq_true rfl) (Nat.le_of_ble_eq_true rfl) dX3_init_39 (fun vq H hP hD hS => ?_)
  have hP : va_P E.1 vwCl ([(h0, .inr (3, [.ref (nn 0), .ref hq, .int (iI 0), .ref sq, .null, .null])), (hq, .inl (E.2 4, 7, .inr (.inr (.inr (.inr (fun _ => none)))))), (sq, .inl (E.2 4, 2, .inr (.inr (.inr (.inr (fun _ => none)))))), (vq, .inl (E.2 1, 2, .inl (fun j : Nat => iI (z0 j))))] ++ wSt E nn 0 0 0 0 0 0 G0i) H := zP_perm hP pm_end
  have hD : va_D A ([(h0, .inr (3, [.ref (nn 0), .ref hq, .int (iI 0), .ref sq, .null, .null])), (hq, .inl (E.2 4, 7, .inr (.inr (.inr (.inr (fun _ => none)))))), (sq, .inl (E.2 4, 2, .inr (.inr (.inr (.inr (fun _ => none)))))), (vq, .inl (E.2 1, 2, .inl (fun j : Nat => iI (z0 j))))] ++ wSt E nn 0 0 0 0 0 0 G0i) := zD_perm hD pm_end
  refine W.widen (k := 29) (n := 228) (Nat.le_of_ble_eq_true rfl) (Nat.le_of_ble_eq_true rfl) ?_
  refine va_putF (D := E.1) (cl := vwCl) (ci := 3) (v := .ref vq) (ty := tyX3 4) (C := RX3) (T := TX3) (N := 6) hx hb hts hinX3 tyX3 tyX3_ok nmX3 hown hK hP hD hS 0 rfl rfl 4 (by decide) (hts (.fieldLink RX3 27 "GenerationNames" "saved" "[Z") (by decide +kernel)) (fun _ h => h) rfl hin rfl (tyX3_ok 4 (by decide)) rfl rfl (Nat.le_of_ble_eq_true rfl) dX3_init_41 (fun H locs hP hD hS => ?_)
  have hP : va_P E.1 vwCl ([(h0, .inr (3, [.ref (nn 0), .ref hq, .int (iI 0), .ref sq, .ref vq, .null])), (hq, .inl (E.2 4, 7, .inr (.inr (.inr (.inr (fun _ => none)))))), (sq, .inl (E.2 4, 2, .inr (.inr (.inr (.inr (fun _ => none)))))), (vq, .inl (E.2 1, 2, .inl (fun j : Nat => iI (z0 j))))] ++ wSt E nn 0 0 0 0 0 0 G0i) H := hP
  have hD : va_D A ([(h0, .inr (3, [.ref (nn 0), .ref hq, .int (iI 0), .ref sq, .ref vq, .null])), (hq, .inl (E.2 4, 7, .inr (.inr (.inr (.inr (fun _ => none)))))), (sq, .inl (E.2 4, 2, .inr (.inr (.inr (.inr (fun _ => none)))))), (vq, .inl (E.2 1, 2, .inl (fun j : Nat => iI (z0 j))))] ++ wSt E nn 0 0 0 0 0 0 G0i) := hD
  refine lv_aload_n hx hb dX3_init_44 rfl (lv_at hl 0 rfl) ?_
  refine z_makeN (own := RX3) (T := TX1) (N := 2) (ci := 1) (bytes := cX1_init) hx hb hml hown hts (by decide +kernel) tyX1 tyX1_ok (hts (.classLink RX3 31 RX1) (by decide +kernel)) (hts (.instantiable RX1 2) (by decide +kernel)) (hts (.initialized RX1) (by decide +kernel)) hAO.2.2.2 (hts (.instanceMethod yX1_init) (by decide +kernel)) hK hAO hA hl.1 hP hD hS rfl (fun j hj => by rcases (show j = 0 ∨ j = 1 by omega) with rfl | rfl <;> rfl) (c_X1_init l E) gX3_init_X1_init_n33 rfl rfl rfl ⟨by decide +kernel, by decide +kernel, by decide +kernel⟩ ⟨Nat.le_of_ble_eq_true rfl, Nat.le_of_ble_eq_true rfl⟩ (fun _ => Nat.le_of_ble_eq_true rfl) (Nat.le_of_ble_eq_true rfl) (Nat.le_of_ble_eq_true rfl) dX3_init_45 dX3_init_48 dX3_init_49 (fun pp H locs hP hD hS => ?_)
  have hP : va_P E.1 vwCl ([(h0, .inr (3, [.ref (nn 0), .ref hq, .int (iI 0), .ref sq, .ref vq, .null])), (hq, .inl (E.2 4, 7, .inr (.inr (.inr (.inr (fun _ => none)))))), (sq, .inl (E.2 4, 2, .inr (.inr (.inr (.inr (fun _ => none)))))), (vq, .inl (E.2 1, 2, .inl (fun j : Nat => iI (z0 j))))] ++ (wPd E pp z0 0 ++ wSt E nn 0 0 0 0 0 0 G0i)) H := zP_perm hP pm_mk
  have hD : va_D A ([(h0, .inr (3, [.ref (nn 0), .ref hq, .int (iI 0), .ref sq, .ref vq, .null])), (hq, .inl (E.2 4, 7, .inr (.inr (.inr (.inr (fun _ => none)))))), (sq, .inl (E.2 4, 2, .inr (.inr (.inr (.inr (fun _ => none)))))), (vq, .inl (E.2 1, 2, .inl (fun j : Nat => iI (z0 j))))] ++ (wPd E pp z0 0 ++ wSt E nn 0 0 0 0 0 0 G0i)) := zD_perm hD pm_mk
  refine W.widen (k := 31) (n := 310) (Nat.le_of_ble_eq_true rfl) (Nat.le_of_ble_eq_true rfl) ?_
  refine va_putF (D := E.1) (cl := vwCl) (ci := 3) (v := .ref (pp 0)) (ty := tyX3 5) (C := RX3) (T := TX3) (N := 6) hx hb hts hinX3 tyX3 tyX3_ok nmX3 hown hK hP hD hS 0 rfl rfl 5 (by decide) (hts (.fieldLink RX3 34 "GenerationNames" "pad" "LGenerationNames$Pad;") (by decide +kernel)) (fun _ h => h) rfl hin rfl (tyX3_ok 5 (by decide)) rfl rfl (Nat.le_of_ble_eq_true rfl) dX3_init_52 (fun H locs hP hD hS => ?_)
  have hP : va_P E.1 vwCl ([(h0, .inr (3, [.ref (nn 0), .ref hq, .int (iI 0), .ref sq, .ref vq, .ref (pp 0)])), (hq, .inl (E.2 4, 7, .inr (.inr (.inr (.inr (fun _ => none)))))), (sq, .inl (E.2 4, 2, .inr (.inr (.inr (.inr (fun _ => none)))))), (vq, .inl (E.2 1, 2, .inl (fun j : Nat => iI (z0 j))))] ++ (wPd E pp z0 0 ++ wSt E nn 0 0 0 0 0 0 G0i)) H := hP
  have hD : va_D A ([(h0, .inr (3, [.ref (nn 0), .ref hq, .int (iI 0), .ref sq, .ref vq, .ref (pp 0)])), (hq, .inl (E.2 4, 7, .inr (.inr (.inr (.inr (fun _ => none)))))), (sq, .inl (E.2 4, 2, .inr (.inr (.inr (.inr (fun _ => none)))))), (vq, .inl (E.2 1, 2, .inl (fun j : Nat => iI (z0 j))))] ++ (wPd E pp z0 0 ++ wSt E nn 0 0 0 0 0 0 G0i)) := hD
  refine lv_iconst (v := iI 0) hx hb dX3_init_55 (by decide) ?_
  refine lv_istore_n (lv' := [(1, .int (iI 0)), (0, .ref h0)]) hx hb dX3_init_56 rfl hl (by decide) rfl (fun ls hl => ?_)
  have hloop2 : ∀ (ss : Nat → Nat → Nat) (n i : Nat) (gs : Nat → Nat → Nat) (hin7 : i + n = 2) (H : Heap) (locs : List Loc) (ls : Array Slot), va_P E.1 vwCl ([(h0, .inr (3, [.ref (nn 0), .ref hq, .int (iI 0), .ref sq, .ref vq, .ref (pp 0)])), (hq, .inl (E.2 4, 7, .inr (.inr (.inr (.inr (fI ss 7)))))), (sq, .inl (E.2 4, 2, .inr (.inr (.inr (.inr (fI gs i)))))), (vq, .inl (E.2 1, 2, .inl (fun j : Nat => iI (z0 j))))] ++ (((wPd E pp z0 0 ++ wSt E nn 0 0 0 0 0 0 G0i) ++ sl0 E ss 7) ++ sl0 E gs i)) H → va_D A ([(h0, .inr (3, [.ref (nn 0), .ref hq, .int (iI 0), .ref sq, .ref vq, .ref (pp 0)])), (hq, .inl (E.2 4, 7, .inr (.inr (.inr (.inr (fI ss 7)))))), (sq, .inl (E.2 4, 2, .inr (.inr (.inr (.inr (fI gs i)))))), (vq, .inl (E.2 1, 2, .inl (fun j : Nat => iI (z0 j))))] ++ (((wPd E pp z0 0 ++ wSt E nn 0 0 0 0 0 0 G0i) ++ sl0 E ss 7) ++ sl0 E gs i)) → va_S A s.heap H locs → lv_has ls 2 [(1, .int (iI (i : Int))), (0, .ref h0)] → W p l e ({ frames := 3, cells := 265, slots := 2263, locals := 110 } : Room) s m #[.ref h0] below meth c H locs (213 + 26 * i) (1829 + 217 * i) (MQ below (zQv E A (fun u : ((Nat → Nat) × (Nat → Nat) × (Int → Nat → Nat) × (Int → Nat → Nat)) => u.1 0 = h0) (fun u : ((Nat → Nat) × (Nat → Nat) × (Int → Nat → Nat) × (Int → Nat → Nat)) => wN E u.1 u.2.1 u.2.2.1 u.2.2.2 0 z0 z0 0 hv0 hv0 0 0 0 0 0 0 G0i)) #[.ref h0] s 265 2263 A) (F0 m 87 ls []) := by
    intro ss n
    induction n with
    | zero =>
      intro i gs hin7 H locs ls hP hD hS hl
      obtain rfl : i = 2 := by omega
      refine lv_iload_n hx hb dX3_init_87 rfl (lv_at hl 0 rfl) ?_
      refine lv_aload_n hx hb dX3_init_88 rfl (lv_at hl 1 rfl) ?_
      refine va_get (D := E.1) (cl := vwCl) (ci := 3) (v := .ref sq) (C := RX3) (T := TX3) (N := 6) hx hb hts hinX3 hown hK hP 0 rfl rfl 3 (by decide) (hts (.fieldLink RX3 24 "GenerationNames" "slots" "[LGenerationNames$State;") (by decide +kernel)) (fun _ h => h) rfl dX3_init_89 ?_
      refine va_alen (v := iI 2) hx hb hK hP 2 4 rfl rfl rfl dX3_init_92 ?_
      refine z_icmp_ge (tgt := 115) hx hb dX3_init_93 (by decide) ⟨by omega, by omega⟩ ⟨by omega, by omega⟩ (fun _ => ?_) (fun q => absurd q (by omega))
      have hP := zP_row (g := fun j => some (har (ssI ss) j)) (fun j hj => by unfold fI; rw [if_pos hj]; rfl) (zP_perm hP (List.Perm.swap _ _ _))
      have hD := zD_row (y := .inl (E.2 4, 7, .inr (.inr (.inr (.inr (fun j => some (har (ssI ss) j))))))) (zD_perm hD (List.Perm.swap _ _ _))
      have pm3 : ∀ (x1 x2 x3 : Nat × va_E) (l : va_W), (x1 :: x2 :: x3 :: l).Perm (x3 :: x2 :: x1 :: l) := fun x1 x2 x3 l => (List.Perm.swap _ _ _).trans (((List.Perm.swap _ _ _).cons _).trans (List.Perm.swap _ _ _))
      have hP := zP_row (g := fun j => some (ssI gs (j : Int) 0)) (fun j hj => by unfold fI; rw [if_pos hj]; rfl) (zP_perm hP (pm3 _ _ _ _))
      have hD := zD_row (y := .inl (E.2 4, 2, .inr (.inr (.inr (.inr (fun j => some (ssI gs (j : Int) 0))))))) (zD_perm hD (pm3 _ _ _ _))
      have hP := zP_perm (zP_perm hP (pm3 _ _ _ _)) (List.Perm.swap _ _ _)
      have hD := zD_perm (zD_perm hD (pm3 _ _ _ _)) (List.Perm.swap _ _ _)
      refine z_vret (u := (mnb h0 hq sq vq pp, nn, ssI gs, ssI ss)) hx hb hr hlocks hK hS rfl ?_ ?_ dX3_init_115
      · show va_P E.1 vwCl (wK4 E (mnb h0 hq sq vq pp) nn (har (ssI ss)) (ssI gs) 0 z0 ++ (wPd E (pq (mnb h0 hq sq vq pp)) z0 0 ++ (wSt E nn 0 0 0 0 0 0 G0i ++ (wHs E (ssI ss) hv0 ++ wSs E (ssI gs) hv0)))) H
        rw [← sl0_7, ← sl0_2]
        rw [List.append_assoc, List.append_assoc] at hP
        exact hP
      · show va_D A (wK4 E (mnb h0 hq sq vq pp) nn (har (ssI ss)) (ssI gs) 0 z0 ++ (wPd E (pq (mnb h0 hq sq vq pp)) z0 0 ++ (wSt E nn 0 0 0 0 0 0 G0i ++ (wHs E (ssI ss) hv0 ++ wSs E (ssI gs) hv0))))
        rw [← sl0_7, ← sl0_2]
        rw [List.append_assoc, List.append_assoc] at hD
        exact hD
    | succ n ih =>
      intro i gs hin7 H locs ls hP hD hS hl
      refine lv_iload_n hx hb dX3_init_87 rfl (lv_at hl 0 rfl) ?_
      refine lv_aload_n hx hb dX3_init_88 rfl (lv_at hl 1 rfl) ?_
      refine va_get (D := E.1) (cl := vwCl) (ci := 3) (v := .ref sq) (C := RX3) (T := TX3) (N := 6) hx hb hts hinX3 hown hK hP 0 rfl rfl 3 (by decide) (hts (.fieldLink RX3 24 "GenerationNames" "slots" "[LGenerationNames$State;") (by decide +kernel)) (fun _ h => h) rfl dX3_init_89 ?_
      refine va_alen (v := iI 2) hx hb hK hP 2 4 rfl rfl rfl dX3_init_92 ?_
      refine z_icmp_ge (tgt := 115) hx hb dX3_init_93 (by decide) ⟨by omega, by omega⟩ ⟨by omega, by omega⟩ (fun q => absurd q (by omega)) (fun _ => ?_)
      refine lv_aload_n hx hb dX3_init_96 rfl (lv_at hl 1 rfl) ?_
      refine va_get (D := E.1) (cl := vwCl) (ci := 3) (v := .ref sq) (C := RX3) (T := TX3) (N := 6) hx hb hts hinX3 hown hK hP 0 rfl rfl 3 (by decide) (hts (.fieldLink RX3 24 "GenerationNames" "slots" "[LGenerationNames$State;") (by decide +kernel)) (fun _ h => h) rfl dX3_init_97 ?_
      refine lv_iload_n hx hb dX3_init_100 rfl (lv_at hl 0 rfl) ?_
      refine z_make (own := RX3) (T := TX2) (N := 7) (ci := 2) (bytes := cX2_init) hx hb hml hown hts (by decide +kernel) tyX2 tyX2_ok (hts (.classLink RX3 9 RX2) (by decide +kernel)) (hts (.instantiable RX2 7) (by decide +kernel)) (hts (.initialized RX2) (by decide +kernel)) (hts (.methodLink RX3 11 yX2_init) (by decide +kernel)) (hts (.instanceMethod yX2_init) (by decide +kernel)) hK hAO hA hl.1 hP hD hS rfl (fun j hj => by rcases (show j = 0 ∨ j = 1 ∨ j = 2 ∨ j = 3 ∨ j = 4 ∨ j = 5 ∨ j = 6 by omega) with rfl | rfl | rfl | rfl | rfl | rfl | rfl <;> rfl) (c_X2_init l E) gX3_init_X2_init rfl rfl rfl ⟨by decide +kernel, by decide +kernel, by decide +kernel⟩ ⟨Nat.le_of_ble_eq_true rfl, Nat.le_of_ble_eq_true rfl⟩ (fun _ => Nat.le_of_ble_eq_true rfl) (by show 213 + 26 * i + 1 + 25 ≤ 265; omega) (by show 1829 + 217 * i + 7 + 210 ≤ 2263; omega) dX3_init_101 dX3_init_104 dX3_init_105 (fun u H locs hP hD hS => ?_)
      have hP : va_P E.1 vwCl ([(h0, .inr (3, [.ref (nn 0), .ref hq, .int (iI 0), .ref sq, .ref vq, .ref (pp 0)])), (hq, .inl (E.2 4, 7, .inr (.inr (.inr (.inr (fI ss 7)))))), (sq, .inl (E.2 4, 2, .inr (.inr (.inr (.inr (fI gs i)))))), (vq, .inl (E.2 1, 2, .inl (fun j : Nat => iI (z0 j))))] ++ (wSt E u 0 0 0 0 0 0 G0i ++ (((wPd E pp z0 0 ++ wSt E nn 0 0 0 0 0 0 G0i) ++ sl0 E ss 7) ++ sl0 E gs i))) H := zP_perm hP pm_mk
      have hD : va_D A ([(h0, .inr (3, [.ref (nn 0), .ref hq, .int (iI 0), .ref sq, .ref vq, .ref (pp 0)])), (hq, .inl (E.2 4, 7, .inr (.inr (.inr (.inr (fI ss 7)))))), (sq, .inl (E.2 4, 2, .inr (.inr (.inr (.inr (fI gs i)))))), (vq, .inl (E.2 1, 2, .inl (fun j : Nat => iI (z0 j))))] ++ (wSt E u 0 0 0 0 0 0 G0i ++ (((wPd E pp z0 0 ++ wSt E nn 0 0 0 0 0 0 G0i) ++ sl0 E ss 7) ++ sl0 E gs i))) := zD_perm hD pm_mk
      refine va_astq (r := (RX2, TX2, 7)) (vs := [.ref (u 1), .int (iI 0), .int (iI 0), .int (iI 0), .int (iI 0), .int (iI 0), .int (iI 0)]) hx hb hK hP hD hS 2 4 4 2 rfl rfl rfl rfl (iI_in (by omega) (by omega) (by omega)) dX3_init_108 (fun H locs hP hD hS => ?_)
      rw [iIn i (by omega), fI_step] at hP hD
      have hg : sl0 E (gsU gs i u) (i + 1) = sl0 E gs i ++ wSt E u 0 0 0 0 0 0 G0i := by
        show sl0 E (gsU gs i u) i ++ wSt E (gsU gs i u i) 0 0 0 0 0 0 G0i = _
        rw [sl0_congr i (fun k hk => gsU_ne (show k ≠ i by omega)), gsU_same]
      have hP : va_P E.1 vwCl ([(h0, .inr (3, [.ref (nn 0), .ref hq, .int (iI 0), .ref sq, .ref vq, .ref (pp 0)])), (hq, .inl (E.2 4, 7, .inr (.inr (.inr (.inr (fI ss 7)))))), (sq, .inl (E.2 4, 2, .inr (.inr (.inr (.inr (fI (gsU gs i u) (i + 1))))))), (vq, .inl (E.2 1, 2, .inl (fun j : Nat => iI (z0 j))))] ++ (((wPd E pp z0 0 ++ wSt E nn 0 0 0 0 0 0 G0i) ++ sl0 E ss 7) ++ sl0 E (gsU gs i u) (i + 1))) H := by
        rw [hg]
        exact zP_perm hP (pm_row (L := ([(h0, .inr (3, [.ref (nn 0), .ref hq, .int (iI 0), .ref sq, .ref vq, .ref (pp 0)])), (hq, .inl (E.2 4, 7, .inr (.inr (.inr (.inr (fI ss 7)))))), (sq, .inl (E.2 4, 2, .inr (.inr (.inr (.inr (fI (gsU gs i u) (i + 1))))))), (vq, .inl (E.2 1, 2, .inl (fun j : Nat => iI (z0 j))))] : va_W)))
      have hD : va_D A ([(h0, .inr (3, [.ref (nn 0), .ref hq, .int (iI 0), .ref sq, .ref vq, .ref (pp 0)])), (hq, .inl (E.2 4, 7, .inr (.inr (.inr (.inr (fI ss 7)))))), (sq, .inl (E.2 4, 2, .inr (.inr (.inr (.inr (fI (gsU gs i u) (i + 1))))))), (vq, .inl (E.2 1, 2, .inl (fun j : Nat => iI (z0 j))))] ++ (((wPd E pp z0 0 ++ wSt E nn 0 0 0 0 0 0 G0i) ++ sl0 E ss 7) ++ sl0 E (gsU gs i u) (i + 1))) := by
        rw [hg]
        exact zD_perm hD (pm_row (L := ([(h0, .inr (3, [.ref (nn 0), .ref hq, .int (iI 0), .ref sq, .ref vq, .ref (pp 0)])), (hq, .inl (E.2 4, 7, .inr (.inr (.inr (.inr (fI ss 7)))))), (sq, .inl (E.2 4, 2, .inr (.inr (.inr (.inr (fI (gsU gs i u) (i + 1))))))), (vq, .inl (E.2 1, 2, .inl (fun j : Nat => iI (z0 j))))] : va_W)))
      refine lv_iinc (v := iI ((i : Int) + 1)) (lv' := [(1, .int (iI ((i : Int) + 1))), (0, .ref h0)]) hx hb dX3_init_109 hl (k := 0) rfl (by rw [← iI_add]; rfl) (by decide) rfl (fun ls hl => ?_)
      refine lv_goto (tgt := 87) hx hb dX3_init_112 (by decide) ?_
      refine W.widen (k := 213 + 26 * (i + 1)) (n := 1829 + 217 * (i + 1)) (by omega) (by omega) ?_
      exact ih (i + 1) (gsU gs i u) (by omega) H locs ls hP hD hS (by rw [show (((i + 1 : Nat) : Int)) = (i : Int) + 1 by omega]; exact hl)
  have hloop1 : ∀ (n i : Nat) (gs : Nat → Nat → Nat) (hin7 : i + n = 7) (H : Heap) (locs : List Loc) (ls : Array Slot), va_P E.1 vwCl ([(h0, .inr (3, [.ref (nn 0), .ref hq, .int (iI 0), .ref sq, .ref vq, .ref (pp 0)])), (hq, .inl (E.2 4, 7, .inr (.inr (.inr (.inr (fI gs i)))))), (sq, .inl (E.2 4, 2, .inr (.inr (.inr (.inr (fun _ => none)))))), (vq, .inl (E.2 1, 2, .inl (fun j : Nat => iI (z0 j))))] ++ ((wPd E pp z0 0 ++ wSt E nn 0 0 0 0 0 0 G0i) ++ sl0 E gs i)) H → va_D A ([(h0, .inr (3, [.ref (nn 0), .ref hq, .int (iI 0), .ref sq, .ref vq, .ref (pp 0)])), (hq, .inl (E.2 4, 7, .inr (.inr (.inr (.inr (fI gs i)))))), (sq, .inl (E.2 4, 2, .inr (.inr (.inr (.inr (fun _ => none)))))), (vq, .inl (E.2 1, 2, .inl (fun j : Nat => iI (z0 j))))] ++ ((wPd E pp z0 0 ++ wSt E nn 0 0 0 0 0 0 G0i) ++ sl0 E gs i)) → va_S A s.heap H locs → lv_has ls 2 [(1, .int (iI (i : Int))), (0, .ref h0)] → W p l e ({ frames := 3, cells := 265, slots := 2263, locals := 110 } : Room) s m #[.ref h0] below meth c H locs (31 + 26 * i) (310 + 217 * i) (MQ below (zQv E A (fun u : ((Nat → Nat) × (Nat → Nat) × (Int → Nat → Nat) × (Int → Nat → Nat)) => u.1 0 = h0) (fun u : ((Nat → Nat) × (Nat → Nat) × (Int → Nat → Nat) × (Int → Nat → Nat)) => wN E u.1 u.2.1 u.2.2.1 u.2.2.2 0 z0 z0 0 hv0 hv0 0 0 0 0 0 0 G0i)) #[.ref h0] s 265 2263 A) (F0 m 57 ls []) := by
    intro n
    induction n with
    | zero =>
      intro i gs hin7 H locs ls hP hD hS hl
      obtain rfl : i = 7 := by omega
      refine lv_iload_n hx hb dX3_init_57 rfl (lv_at hl 0 rfl) ?_
      refine lv_aload_n hx hb dX3_init_58 rfl (lv_at hl 1 rfl) ?_
      refine va_get (D := E.1) (cl := vwCl) (ci := 3) (v := .ref hq) (C := RX3) (T := TX3) (N := 6) hx hb hts hinX3 hown hK hP 0 rfl rfl 1 (by decide) (hts (.fieldLink RX3 16 "GenerationNames" "history" "[LGenerationNames$State;") (by decide +kernel)) (fun _ h => h) rfl dX3_init_59 ?_
      refine va_alen (v := iI 7) hx hb hK hP 1 4 rfl rfl rfl dX3_init_62 ?_
      refine z_icmp_ge (tgt := 85) hx hb dX3_init_63 (by decide) ⟨by omega, by omega⟩ ⟨by omega, by omega⟩ (fun _ => ?_) (fun q => absurd q (by omega))
      refine lv_iconst (v := iI 0) hx hb dX3_init_85 (by decide) ?_
      refine lv_istore_n (lv' := [(1, .int (iI 0)), (0, .ref h0)]) hx hb dX3_init_86 rfl hl (by decide) rfl (fun ls hl => ?_)
      have pm3 : ∀ (x1 x2 x3 : Nat × va_E) (l : va_W), (x1 :: x2 :: x3 :: l).Perm (x3 :: x2 :: x1 :: l) := fun x1 x2 x3 l => (List.Perm.swap _ _ _).trans (((List.Perm.swap _ _ _).cons _).trans (List.Perm.swap _ _ _))
      have hP := zP_perm (zP_row (g := fI (fun _ _ => 0) 0) (fun j _ => by unfold fI; rw [if_neg (by omega)]) (zP_perm hP (pm3 _ _ _ _))) (pm3 _ _ _ _)
      have hD := zD_perm (zD_row (y := .inl (E.2 4, 2, .inr (.inr (.inr (.inr (fI (fun _ _ => 0) 0)))))) (zD_perm hD (pm3 _ _ _ _))) (pm3 _ _ _ _)
      exact hloop2 gs 2 0 (fun _ _ => 0) rfl H locs ls (by rw [show sl0 E (fun _ _ => 0) 0 = [] from rfl, List.append_nil]; exact hP) (by rw [show sl0 E (fun _ _ => 0) 0 = [] from rfl, List.append_nil]; exact hD) hS hl
    | succ n ih =>
      intro i gs hin7 H locs ls hP hD hS hl
      refine lv_iload_n hx hb dX3_init_57 rfl (lv_at hl 0 rfl) ?_
      refine lv_aload_n hx hb dX3_init_58 rfl (lv_at hl 1 rfl) ?_
      refine va_get (D := E.1) (cl := vwCl) (ci := 3) (v := .ref hq) (C := RX3) (T := TX3) (N := 6) hx hb hts hinX3 hown hK hP 0 rfl rfl 1 (by decide) (hts (.fieldLink RX3 16 "GenerationNames" "history" "[LGenerationNames$State;") (by decide +kernel)) (fun _ h => h) rfl dX3_init_59 ?_
      refine va_alen (v := iI 7) hx hb hK hP 1 4 rfl rfl rfl dX3_init_62 ?_
      refine z_icmp_ge (tgt := 85) hx hb dX3_init_63 (by decide) ⟨by omega, by omega⟩ ⟨by omega, by omega⟩ (fun q => absurd q (by omega)) (fun _ => ?_)
      refine lv_aload_n hx hb dX3_init_66 rfl (lv_at hl 1 rfl) ?_
      refine va_get (D := E.1) (cl := vwCl) (ci := 3) (v := .ref hq) (C := RX3) (T := TX3) (N := 6) hx hb hts hinX3 hown hK hP 0 rfl rfl 1 (by decide) (hts (.fieldLink RX3 16 "GenerationNames" "history" "[LGenerationNames$State;") (by decide +kernel)) (fun _ h => h) rfl dX3_init_67 ?_
      refine lv_iload_n hx hb dX3_init_70 rfl (lv_at hl 0 rfl) ?_
      refine z_make (own := RX3) (T := TX2) (N := 7) (ci := 2) (bytes := cX2_init) hx hb hml hown hts (by decide +kernel) tyX2 tyX2_ok (hts (.classLink RX3 9 RX2) (by decide +kernel)) (hts (.instantiable RX2 7) (by decide +kernel)) (hts (.initialized RX2) (by decide +kernel)) (hts (.methodLink RX3 11 yX2_init) (by decide +kernel)) (hts (.instanceMethod yX2_init) (by decide +kernel)) hK hAO hA hl.1 hP hD hS rfl (fun j hj => by rcases (show j = 0 ∨ j = 1 ∨ j = 2 ∨ j = 3 ∨ j = 4 ∨ j = 5 ∨ j = 6 by omega) with rfl | rfl | rfl | rfl | rfl | rfl | rfl <;> rfl) (c_X2_init l E) gX3_init_X2_init rfl rfl rfl ⟨by decide +kernel, by decide +kernel, by decide +kernel⟩ ⟨Nat.le_of_ble_eq_true rfl, Nat.le_of_ble_eq_true rfl⟩ (fun _ => Nat.le_of_ble_eq_true rfl) (by show 31 + 26 * i + 1 + 25 ≤ 265; omega) (by show 310 + 217 * i + 7 + 210 ≤ 2263; omega) dX3_init_71 dX3_init_74 dX3_init_75 (fun u H locs hP hD hS => ?_)
      have hP : va_P E.1 vwCl ([(h0, .inr (3, [.ref (nn 0), .ref hq, .int (iI 0), .ref sq, .ref vq, .ref (pp 0)])), (hq, .inl (E.2 4, 7, .inr (.inr (.inr (.inr (fI gs i)))))), (sq, .inl (E.2 4, 2, .inr (.inr (.inr (.inr (fun _ => none)))))), (vq, .inl (E.2 1, 2, .inl (fun j : Nat => iI (z0 j))))] ++ (wSt E u 0 0 0 0 0 0 G0i ++ ((wPd E pp z0 0 ++ wSt E nn 0 0 0 0 0 0 G0i) ++ sl0 E gs i))) H := zP_perm hP pm_mk
      have hD : va_D A ([(h0, .inr (3, [.ref (nn 0), .ref hq, .int (iI 0), .ref sq, .ref vq, .ref (pp 0)])), (hq, .inl (E.2 4, 7, .inr (.inr (.inr (.inr (fI gs i)))))), (sq, .inl (E.2 4, 2, .inr (.inr (.inr (.inr (fun _ => none)))))), (vq, .inl (E.2 1, 2, .inl (fun j : Nat => iI (z0 j))))] ++ (wSt E u 0 0 0 0 0 0 G0i ++ ((wPd E pp z0 0 ++ wSt E nn 0 0 0 0 0 0 G0i) ++ sl0 E gs i))) := zD_perm hD pm_mk
      refine va_astq (r := (RX2, TX2, 7)) (vs := [.ref (u 1), .int (iI 0), .int (iI 0), .int (iI 0), .int (iI 0), .int (iI 0), .int (iI 0)]) hx hb hK hP hD hS 1 4 4 2 rfl rfl rfl rfl (iI_in (by omega) (by omega) (by omega)) dX3_init_78 (fun H locs hP hD hS => ?_)
      rw [iIn i (by omega), fI_step] at hP hD
      have hg : sl0 E (gsU gs i u) (i + 1) = sl0 E gs i ++ wSt E u 0 0 0 0 0 0 G0i := by
        show sl0 E (gsU gs i u) i ++ wSt E (gsU gs i u i) 0 0 0 0 0 0 G0i = _
        rw [sl0_congr i (fun k hk => gsU_ne (show k ≠ i by omega)), gsU_same]
      have hP : va_P E.1 vwCl ([(h0, .inr (3, [.ref (nn 0), .ref hq, .int (iI 0), .ref sq, .ref vq, .ref (pp 0)])), (hq, .inl (E.2 4, 7, .inr (.inr (.inr (.inr (fI (gsU gs i u) (i + 1))))))), (sq, .inl (E.2 4, 2, .inr (.inr (.inr (.inr (fun _ => none)))))), (vq, .inl (E.2 1, 2, .inl (fun j : Nat => iI (z0 j))))] ++ ((wPd E pp z0 0 ++ wSt E nn 0 0 0 0 0 0 G0i) ++ sl0 E (gsU gs i u) (i + 1))) H := by
        rw [hg]
        exact zP_perm hP (pm_row (L := ([(h0, .inr (3, [.ref (nn 0), .ref hq, .int (iI 0), .ref sq, .ref vq, .ref (pp 0)])), (hq, .inl (E.2 4, 7, .inr (.inr (.inr (.inr (fI (gsU gs i u) (i + 1))))))), (sq, .inl (E.2 4, 2, .inr (.inr (.inr (.inr (fun _ => none)))))), (vq, .inl (E.2 1, 2, .inl (fun j : Nat => iI (z0 j))))] : va_W)))
      have hD : va_D A ([(h0, .inr (3, [.ref (nn 0), .ref hq, .int (iI 0), .ref sq, .ref vq, .ref (pp 0)])), (hq, .inl (E.2 4, 7, .inr (.inr (.inr (.inr (fI (gsU gs i u) (i + 1))))))), (sq, .inl (E.2 4, 2, .inr (.inr (.inr (.inr (fun _ => none)))))), (vq, .inl (E.2 1, 2, .inl (fun j : Nat => iI (z0 j))))] ++ ((wPd E pp z0 0 ++ wSt E nn 0 0 0 0 0 0 G0i) ++ sl0 E (gsU gs i u) (i + 1))) := by
        rw [hg]
        exact zD_perm hD (pm_row (L := ([(h0, .inr (3, [.ref (nn 0), .ref hq, .int (iI 0), .ref sq, .ref vq, .ref (pp 0)])), (hq, .inl (E.2 4, 7, .inr (.inr (.inr (.inr (fI (gsU gs i u) (i + 1))))))), (sq, .inl (E.2 4, 2, .inr (.inr (.inr (.inr (fun _ => none)))))), (vq, .inl (E.2 1, 2, .inl (fun j : Nat => iI (z0 j))))] : va_W)))
      refine lv_iinc (v := iI ((i : Int) + 1)) (lv' := [(1, .int (iI ((i : Int) + 1))), (0, .ref h0)]) hx hb dX3_init_79 hl (k := 0) rfl (by rw [← iI_add]; rfl) (by decide) rfl (fun ls hl => ?_)
      refine lv_goto (tgt := 57) hx hb dX3_init_82 (by decide) ?_
      refine W.widen (k := 31 + 26 * (i + 1)) (n := 310 + 217 * (i + 1)) (by omega) (by omega) ?_
      exact ih (i + 1) (gsU gs i u) (by omega) H locs ls hP hD hS (by rw [show (((i + 1 : Nat) : Int)) = (i : Int) + 1 by omega]; exact hl)
  have hP := zP_perm (zP_row (g := fI (fun _ _ => 0) 0) (fun j _ => by unfold fI; rw [if_neg (by omega)]) (zP_perm hP (List.Perm.swap _ _ _))) (List.Perm.swap _ _ _)
  have hD := zD_perm (zD_row (y := .inl (E.2 4, 7, .inr (.inr (.inr (.inr (fI (fun _ _ => 0) 0)))))) (zD_perm hD (List.Perm.swap _ _ _))) (List.Perm.swap _ _ _)
  exact hloop1 7 0 (fun _ _ => 0) rfl H locs ls (by rw [show sl0 E (fun _ _ => 0) 0 = [] from rfl, List.append_nil]; exact hP) (by rw [show sl0 E (fun _ _ => 0) 0 = [] from rfl, List.append_nil]; exact hD) hS hl
