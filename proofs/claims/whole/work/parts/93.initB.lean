/-- the groups that are made so far -/
def gl (E : zE) (gs : Nat → Nat → Nat) : Nat → va_W
  | 0 => []
  | n + 1 => gl E gs n ++ wX E (gs n) X0i
theorem gl_congr {E : zE} {gs gs' : Nat → Nat → Nat} : ∀ n : Nat, (∀ k, k < n → gs k = gs' k) → gl E gs n = gl E gs' n
  | 0, _ => rfl
  | n + 1, h => by
    show gl E gs n ++ wX E (gs n) X0i = gl E gs' n ++ wX E (gs' n) X0i
    rw [gl_congr n (fun k hk => h k (by omega)), h n (by omega)]
def fI (gs : Nat → Nat → Nat) (i : Nat) : Nat → Option Nat := fun j => if j < i then some (gs j 0) else none
def gsU (gs : Nat → Nat → Nat) (i : Nat) (u : Nat → Nat) : Nat → Nat → Nat := fun k => if k = i then u else gs k
theorem fI_step {gs : Nat → Nat → Nat} {i : Nat} {u : Nat → Nat} : va_up (fI gs i) i (some (u 0)) = fI (gsU gs i u) (i + 1) := by
  funext j
  unfold va_up fI gsU
  by_cases e : j = i
  · rw [if_pos e, if_pos (by omega), if_pos e]
  · rw [if_neg e, if_neg e]
    by_cases c : j < i
    · rw [if_pos c, if_pos (by omega)]
    · rw [if_neg c, if_neg (by omega)]
theorem gsU_same {gs : Nat → Nat → Nat} {i : Nat} {u : Nat → Nat} : gsU gs i u i = u := if_pos rfl
theorem gsU_ne {gs : Nat → Nat → Nat} {i k : Nat} {u : Nat → Nat} (h : k ≠ i) : gsU gs i u k = gs k := if_neg h
def G0i : Int → zGr := fun _ => X0i
def stq (h0 a : Nat) (gs : Nat → Nat → Nat) : Nat → Nat := fun j => if j = 0 then h0 else if j = 1 then a else gs ((j - 2) / 4) ((j - 2) % 4)
theorem gl_six {E : zE} {h0 a : Nat} {gs : Nat → Nat → Nat} : gl E gs 6 = six.flatMap (fun i => wX E (gq (stq h0 a gs) i) (G0i i)) := rfl
theorem iIn (n : Nat) (h : n < 1000) : (iI (n : Int)).toNatClampNeg = n := by rw [iI_ix ⟨by omega, by omega⟩]; omega
set_option maxRecDepth 100000 in
set_option maxHeartbeats 400000 in
/-- State() -/
theorem c_X2_init (l : Launch) (E : zE) : zI l E yX2_init wsX2_init 2 70 25 210 2 [.null, .int (iI 0), .int (iI 0), .int (iI 0), .int (iI 0), .int (iI 0), .int (iI 0)] (fun q : Nat → Nat => q 0) (fun q : Nat → Nat => wSt E q 0 0 0 0 0 0 G0i) := by
  refine zI_of (cc := cX2_init) (maxL := 2) (by decide) rfl (Nat.le_of_ble_eq_true rfl) rfl ?_
  intro h0 p e s m below meth c ls A hx hb hr hts hown hlocks hin hml hK hAO hA hS hP hD hl
  have hown : s.vm.findClass RX2 = some m.cls := hown
  have hinX2 : ∀ v ∈ u_ws RX2 TX2 7, v ∈ wsX2_init := by decide +kernel
  refine lv_aload_n hx hb dX2_init_0 rfl (lv_at hl 0 rfl) ?_
  refine W.objInit hx hb hown (hts (.methodLink RX2 3 objectInit) (by decide +kernel)) (hts (.instanceMethod objectInit) (by decide +kernel)) (hts (.code objectInit ⟨#[0xb1]⟩ 1 none) (by decide +kernel)) rfl (by rw [hml]; exact hl.1) rfl dX2_init_1 (Nat.le_of_ble_eq_true rfl) (Nat.le_of_ble_eq_true rfl) ?_
  refine W.eq (g2 := F0 m 4 ls []) rfl ?_
  refine lv_aload_n hx hb dX2_init_4 rfl (lv_at hl 0 rfl) ?_
  refine lv_bipush (v := iI 6) hx hb dX2_init_5 (by decide) ?_
  refine z_newq hx hb hown (hts (.classLink RX2 9 RX0) (by decide +kernel)) hAO.1 hK 3 rfl hP hD hS hA (by omega) (by omega) rfl (Nat.le_of_ble_eq_true rfl) (Nat.le_of_ble_eq_true rfl) (Nat.le_of_ble_eq_true rfl) dX2_init_7 (fun qa H hP hD hS => ?_)
  have hP : va_P E.1 vwCl [(h0, .inr (2, [.null, .int (iI 0), .int (iI 0), .int (iI 0), .int (iI 0), .int (iI 0), .int (iI 0)])), (qa, .inl (E.2 3, 6, .inr (.inr (.inr (.inr (fun _ => none))))))] H := hP
  have hD : va_D A [(h0, .inr (2, [.null, .int (iI 0), .int (iI 0), .int (iI 0), .int (iI 0), .int (iI 0), .int (iI 0)])), (qa, .inl (E.2 3, 6, .inr (.inr (.inr (.inr (fun _ => none))))))] := hD
  refine W.widen (k := 1) (n := 6) (Nat.le_of_ble_eq_true rfl) (Nat.le_of_ble_eq_true rfl) ?_
  refine va_putF (D := E.1) (cl := vwCl) (ci := 2) (v := .ref qa) (ty := tyX2 0) (C := RX2) (T := TX2) (N := 7) hx hb hts hinX2 tyX2 tyX2_ok nmX2 hown hK hP hD hS 0 rfl rfl 0 (by decide) (hts (.fieldLink RX2 11 "GenerationNames$State" "groups" "[LGenerationNames$Group;") (by decide +kernel)) (fun _ h => h) rfl hin rfl (tyX2_ok 0 (by decide)) rfl rfl (Nat.le_of_ble_eq_true rfl) dX2_init_10 (fun H locs hP hD hS => ?_)
  have hP : va_P E.1 vwCl [(h0, .inr (2, [.ref qa, .int (iI 0), .int (iI 0), .int (iI 0), .int (iI 0), .int (iI 0), .int (iI 0)])), (qa, .inl (E.2 3, 6, .inr (.inr (.inr (.inr (fun _ => none))))))] H := hP
  have hD : va_D A [(h0, .inr (2, [.ref qa, .int (iI 0), .int (iI 0), .int (iI 0), .int (iI 0), .int (iI 0), .int (iI 0)])), (qa, .inl (E.2 3, 6, .inr (.inr (.inr (.inr (fun _ => none))))))] := hD
  refine lv_aload_n hx hb dX2_init_13 rfl (lv_at hl 0 rfl) ?_
  refine lv_iconst (v := iI 0) hx hb dX2_init_14 (by decide) ?_
  refine va_put (D := E.1) (cl := vwCl) (ci := 2) (v := .int (iI 0)) (ty := tyX2 1) (C := RX2) (T := TX2) (N := 7) hx hb hts hinX2 tyX2 tyX2_ok nmX2 hown hK hP hD hS 0 rfl rfl 1 (by decide) (hts (.fieldLink RX2 17 "GenerationNames$State" "jobsBegun" "I") (by decide +kernel)) (fun _ h => h) rfl (tyX2_ok 1 (by decide)) rfl rfl (Nat.le_of_ble_eq_true rfl) dX2_init_15 (fun H locs hP hD hS => ?_)
  have hP : va_P E.1 vwCl [(h0, .inr (2, [.ref qa, .int (iI 0), .int (iI 0), .int (iI 0), .int (iI 0), .int (iI 0), .int (iI 0)])), (qa, .inl (E.2 3, 6, .inr (.inr (.inr (.inr (fun _ => none))))))] H := hP
  have hD : va_D A [(h0, .inr (2, [.ref qa, .int (iI 0), .int (iI 0), .int (iI 0), .int (iI 0), .int (iI 0), .int (iI 0)])), (qa, .inl (E.2 3, 6, .inr (.inr (.inr (.inr (fun _ => none))))))] := hD
  refine lv_aload_n hx hb dX2_init_18 rfl (lv_at hl 0 rfl) ?_
  refine lv_iconst (v := iI 0) hx hb dX2_init_19 (by decide) ?_
  refine va_put (D := E.1) (cl := vwCl) (ci := 2) (v := .int (iI 0)) (ty := tyX2 2) (C := RX2) (T := TX2) (N := 7) hx hb hts hinX2 tyX2 tyX2_ok nmX2 hown hK hP hD hS 0 rfl rfl 2 (by decide) (hts (.fieldLink RX2 21 "GenerationNames$State" "jobRuns" "Z") (by decide +kernel)) (fun _ h => h) rfl (tyX2_ok 2 (by decide)) rfl rfl (Nat.le_of_ble_eq_true rfl) dX2_init_20 (fun H locs hP hD hS => ?_)
  have hP : va_P E.1 vwCl [(h0, .inr (2, [.ref qa, .int (iI 0), .int (iI 0), .int (iI 0), .int (iI 0), .int (iI 0), .int (iI 0)])), (qa, .inl (E.2 3, 6, .inr (.inr (.inr (.inr (fun _ => none))))))] H := hP
  have hD : va_D A [(h0, .inr (2, [.ref qa, .int (iI 0), .int (iI 0), .int (iI 0), .int (iI 0), .int (iI 0), .int (iI 0)])), (qa, .inl (E.2 3, 6, .inr (.inr (.inr (.inr (fun _ => none))))))] := hD
  refine lv_aload_n hx hb dX2_init_23 rfl (lv_at hl 0 rfl) ?_
  refine lv_iconst (v := iI 0) hx hb dX2_init_24 (by decide) ?_
  refine va_put (D := E.1) (cl := vwCl) (ci := 2) (v := .int (iI 0)) (ty := tyX2 3) (C := RX2) (T := TX2) (N := 7) hx hb hts hinX2 tyX2 tyX2_ok nmX2 hown hK hP hD hS 0 rfl rfl 3 (by decide) (hts (.fieldLink RX2 25 "GenerationNames$State" "lastJobFailed" "Z") (by decide +kernel)) (fun _ h => h) rfl (tyX2_ok 3 (by decide)) rfl rfl (Nat.le_of_ble_eq_true rfl) dX2_init_25 (fun H locs hP hD hS => ?_)
  have hP : va_P E.1 vwCl [(h0, .inr (2, [.ref qa, .int (iI 0), .int (iI 0), .int (iI 0), .int (iI 0), .int (iI 0), .int (iI 0)])), (qa, .inl (E.2 3, 6, .inr (.inr (.inr (.inr (fun _ => none))))))] H := hP
  have hD : va_D A [(h0, .inr (2, [.ref qa, .int (iI 0), .int (iI 0), .int (iI 0), .int (iI 0), .int (iI 0), .int (iI 0)])), (qa, .inl (E.2 3, 6, .inr (.inr (.inr (.inr (fun _ => none))))))] := hD
  refine lv_aload_n hx hb dX2_init_28 rfl (lv_at hl 0 rfl) ?_
  refine lv_iconst (v := iI 0) hx hb dX2_init_29 (by decide) ?_
  refine va_put (D := E.1) (cl := vwCl) (ci := 2) (v := .int (iI 0)) (ty := tyX2 4) (C := RX2) (T := TX2) (N := 7) hx hb hts hinX2 tyX2 tyX2_ok nmX2 hown hK hP hD hS 0 rfl rfl 4 (by decide) (hts (.fieldLink RX2 28 "GenerationNames$State" "jobsFailed" "I") (by decide +kernel)) (fun _ h => h) rfl (tyX2_ok 4 (by decide)) rfl rfl (Nat.le_of_ble_eq_true rfl) dX2_init_30 (fun H locs hP hD hS => ?_)
  have hP : va_P E.1 vwCl [(h0, .inr (2, [.ref qa, .int (iI 0), .int (iI 0), .int (iI 0), .int (iI 0), .int (iI 0), .int (iI 0)])), (qa, .inl (E.2 3, 6, .inr (.inr (.inr (.inr (fun _ => none))))))] H := hP
  have hD : va_D A [(h0, .inr (2, [.ref qa, .int (iI 0), .int (iI 0), .int (iI 0), .int (iI 0), .int (iI 0), .int (iI 0)])), (qa, .inl (E.2 3, 6, .inr (.inr (.inr (.inr (fun _ => none))))))] := hD
  refine lv_aload_n hx hb dX2_init_33 rfl (lv_at hl 0 rfl) ?_
  refine lv_iconst (v := iI 0) hx hb dX2_init_34 (by decide) ?_
  refine va_put (D := E.1) (cl := vwCl) (ci := 2) (v := .int (iI 0)) (ty := tyX2 5) (C := RX2) (T := TX2) (N := 7) hx hb hts hinX2 tyX2 tyX2_ok nmX2 hown hK hP hD hS 0 rfl rfl 5 (by decide) (hts (.fieldLink RX2 31 "GenerationNames$State" "reads" "I") (by decide +kernel)) (fun _ h => h) rfl (tyX2_ok 5 (by decide)) rfl rfl (Nat.le_of_ble_eq_true rfl) dX2_init_35 (fun H locs hP hD hS => ?_)
  have hP : va_P E.1 vwCl [(h0, .inr (2, [.ref qa, .int (iI 0), .int (iI 0), .int (iI 0), .int (iI 0), .int (iI 0), .int (iI 0)])), (qa, .inl (E.2 3, 6, .inr (.inr (.inr (.inr (fun _ => none))))))] H := hP
  have hD : va_D A [(h0, .inr (2, [.ref qa, .int (iI 0), .int (iI 0), .int (iI 0), .int (iI 0), .int (iI 0), .int (iI 0)])), (qa, .inl (E.2 3, 6, .inr (.inr (.inr (.inr (fun _ => none))))))] := hD
  refine lv_aload_n hx hb dX2_init_38 rfl (lv_at hl 0 rfl) ?_
  refine lv_iconst (v := iI 0) hx hb dX2_init_39 (by decide) ?_
  refine va_put (D := E.1) (cl := vwCl) (ci := 2) (v := .int (iI 0)) (ty := tyX2 6) (C := RX2) (T := TX2) (N := 7) hx hb hts hinX2 tyX2 tyX2_ok nmX2 hown hK hP hD hS 0 rfl rfl 6 (by decide) (hts (.fieldLink RX2 34 "GenerationNames$State" "vainReads" "I") (by decide +kernel)) (fun _ h => h) rfl (tyX2_ok 6 (by decide)) rfl rfl (Nat.le_of_ble_eq_true rfl) dX2_init_40 (fun H locs hP hD hS => ?_)
  have hP : va_P E.1 vwCl [(h0, .inr (2, [.ref qa, .int (iI 0), .int (iI 0), .int (iI 0), .int (iI 0), .int (iI 0), .int (iI 0)])), (qa, .inl (E.2 3, 6, .inr (.inr (.inr (.inr (fun _ => none))))))] H := hP
  have hD : va_D A [(h0, .inr (2, [.ref qa, .int (iI 0), .int (iI 0), .int (iI 0), .int (iI 0), .int (iI 0), .int (iI 0)])), (qa, .inl (E.2 3, 6, .inr (.inr (.inr (.inr (fun _ => none))))))] := hD
  refine lv_iconst (v := iI 0) hx hb dX2_init_43 (by decide) ?_
  refine lv_istore_n (lv' := [(1, .int (iI 0)), (0, .ref h0)]) hx hb dX2_init_44 rfl hl (by decide) rfl (fun ls hl => ?_)
  have hloop : ∀ (n i : Nat) (gs : Nat → Nat → Nat) (hin6 : i + n = 6) (H : Heap) (locs : List Loc) (ls : Array Slot), va_P E.1 vwCl ([(h0, .inr (2, [.ref qa, .int (iI 0), .int (iI 0), .int (iI 0), .int (iI 0), .int (iI 0), .int (iI 0)])), (qa, .inl (E.2 3, 6, .inr (.inr (.inr (.inr (fI gs i))))))] ++ gl E gs i) H → va_D A ([(h0, .inr (2, [.ref qa, .int (iI 0), .int (iI 0), .int (iI 0), .int (iI 0), .int (iI 0), .int (iI 0)])), (qa, .inl (E.2 3, 6, .inr (.inr (.inr (.inr (fI gs i))))))] ++ gl E gs i) → va_S A s.heap H locs → lv_has ls 2 [(1, .int (iI (i : Int))), (0, .ref h0)] → W p l e ({ frames := 2, cells := 25, slots := 210, locals := 70 } : Room) s m #[.ref h0] below meth c H locs (1 + 4 * i) (6 + 34 * i) (MQ below (zQv E A (fun u : Nat → Nat => u 0 = h0) (fun q : Nat → Nat => wSt E q 0 0 0 0 0 0 G0i)) #[.ref h0] s 25 210 A) (F0 m 45 ls []) := by
    intro n
    induction n with
    | zero =>
      intro i gs hin6 H locs ls hP hD hS hl
      obtain rfl : i = 6 := by omega
      refine lv_iload_n hx hb dX2_init_45 rfl (lv_at hl 0 rfl) ?_
      refine lv_bipush (v := iI 6) hx hb dX2_init_46 (by decide) ?_
      refine z_icmp_ge (tgt := 70) hx hb dX2_init_48 (by decide) ⟨by omega, by omega⟩ ⟨by omega, by omega⟩ (fun _ => ?_) (fun q => absurd q (by omega))
      have hP := zP_row (g := fun j => some (stq h0 qa gs (2 + 4 * j))) (fun j hj => by
        unfold fI
        rw [if_pos hj]
        show some (gs j 0) = some (if 2 + 4 * j = 0 then h0 else if 2 + 4 * j = 1 then qa else gs ((2 + 4 * j - 2) / 4) ((2 + 4 * j - 2) % 4))
        rw [if_neg (by omega), if_neg (by omega), show (2 + 4 * j - 2) / 4 = j by omega, show (2 + 4 * j - 2) % 4 = 0 by omega]) (zP_perm hP (List.Perm.swap _ _ _))
      have hD := zD_row (y := .inl (E.2 3, 6, .inr (.inr (.inr (.inr (fun j => some (stq h0 qa gs (2 + 4 * j)))))))) (zD_perm hD (List.Perm.swap _ _ _))
      have hP := zP_perm hP (List.Perm.swap _ _ _)
      have hD := zD_perm hD (List.Perm.swap _ _ _)
      rw [gl_six (h0 := h0) (a := qa)] at hP hD
      exact z_vret hx hb hr hlocks hK hS (stq h0 qa gs) rfl hP hD dX2_init_70
    | succ n ih =>
      intro i gs hin6 H locs ls hP hD hS hl
      refine lv_iload_n hx hb dX2_init_45 rfl (lv_at hl 0 rfl) ?_
      refine lv_bipush (v := iI 6) hx hb dX2_init_46 (by decide) ?_
      refine z_icmp_ge (tgt := 70) hx hb dX2_init_48 (by decide) ⟨by omega, by omega⟩ ⟨by omega, by omega⟩ (fun q => absurd q (by omega)) (fun _ => ?_)
      refine lv_aload_n hx hb dX2_init_51 rfl (lv_at hl 1 rfl) ?_
      refine va_get (D := E.1) (cl := vwCl) (ci := 2) (v := .ref qa) (C := RX2) (T := TX2) (N := 7) hx hb hts hinX2 hown hK hP 0 rfl rfl 0 (by decide) (hts (.fieldLink RX2 11 "GenerationNames$State" "groups" "[LGenerationNames$Group;") (by decide +kernel)) (fun _ h => h) rfl dX2_init_52 ?_
      refine lv_iload_n hx hb dX2_init_55 rfl (lv_at hl 0 rfl) ?_
      refine z_makeN (own := RX2) (T := TX0) (N := 10) (ci := 0) (bytes := cX0_init) hx hb hml hown hts (by decide +kernel) tyX0 tyX0_ok (hts (.classLink RX2 9 RX0) (by decide +kernel)) (hts (.instantiable RX0 10) (by decide +kernel)) (hts (.initialized RX0) (by decide +kernel)) hAO.2.2.1 (hts (.instanceMethod yX0_init) (by decide +kernel)) hK hAO hA hl.1 hP hD hS rfl (fun j hj => by rcases (show j = 0 ∨ j = 1 ∨ j = 2 ∨ j = 3 ∨ j = 4 ∨ j = 5 ∨ j = 6 ∨ j = 7 ∨ j = 8 ∨ j = 9 by omega) with rfl | rfl | rfl | rfl | rfl | rfl | rfl | rfl | rfl | rfl <;> rfl) (c_X0_init l E) gX2_init_X0_init_n37 rfl rfl rfl ⟨by decide +kernel, by decide +kernel, by decide +kernel⟩ ⟨Nat.le_of_ble_eq_true rfl, Nat.le_of_ble_eq_true rfl⟩ (fun _ => Nat.le_of_ble_eq_true rfl) (by show 1 + 4 * i + 1 + 3 ≤ 25; omega) (by show 6 + 34 * i + 10 + 24 ≤ 210; omega) dX2_init_56 dX2_init_59 dX2_init_60 (fun u H locs hP hD hS => ?_)
      have hP : va_P E.1 vwCl ([(h0, .inr (2, [.ref qa, .int (iI 0), .int (iI 0), .int (iI 0), .int (iI 0), .int (iI 0), .int (iI 0)])), (qa, .inl (E.2 3, 6, .inr (.inr (.inr (.inr (fI gs i))))))] ++ (wX E u X0i ++ gl E gs i)) H := zP_perm hP pm_mk
      have hD : va_D A ([(h0, .inr (2, [.ref qa, .int (iI 0), .int (iI 0), .int (iI 0), .int (iI 0), .int (iI 0), .int (iI 0)])), (qa, .inl (E.2 3, 6, .inr (.inr (.inr (.inr (fI gs i))))))] ++ (wX E u X0i ++ gl E gs i)) := zD_perm hD pm_mk
      refine va_astq (r := (RX0, TX0, 10)) (vs := [.int (iI 3), .int (iI 0), .int (iI 0), .int (iI 0), .int (iI 0), .int (iI 0), .int (iI 0), .ref (u 1), .ref (u 2), .ref (u 3)]) hx hb hK hP hD hS 1 3 2 0 rfl rfl rfl rfl (iI_in (by omega) (by omega) (by omega)) dX2_init_63 (fun H locs hP hD hS => ?_)
      rw [iIn i (by omega), fI_step] at hP hD
      have hg : gl E (gsU gs i u) (i + 1) = gl E gs i ++ wX E u X0i := by
        show gl E (gsU gs i u) i ++ wX E (gsU gs i u i) X0i = _
        rw [gl_congr i (fun k hk => gsU_ne (show k ≠ i by omega)), gsU_same]
      have hP : va_P E.1 vwCl ([(h0, .inr (2, [.ref qa, .int (iI 0), .int (iI 0), .int (iI 0), .int (iI 0), .int (iI 0), .int (iI 0)])), (qa, .inl (E.2 3, 6, .inr (.inr (.inr (.inr (fI (gsU gs i u) (i + 1)))))))] ++ gl E (gsU gs i u) (i + 1)) H := by
        rw [hg]
        exact zP_perm hP (List.Perm.append_left ([(h0, .inr (2, [.ref qa, .int (iI 0), .int (iI 0), .int (iI 0), .int (iI 0), .int (iI 0), .int (iI 0)])), (qa, .inl (E.2 3, 6, .inr (.inr (.inr (.inr (fI (gsU gs i u) (i + 1)))))))] : va_W) List.perm_append_comm)
      have hD : va_D A ([(h0, .inr (2, [.ref qa, .int (iI 0), .int (iI 0), .int (iI 0), .int (iI 0), .int (iI 0), .int (iI 0)])), (qa, .inl (E.2 3, 6, .inr (.inr (.inr (.inr (fI (gsU gs i u) (i + 1)))))))] ++ gl E (gsU gs i u) (i + 1)) := by
        rw [hg]
        exact zD_perm hD (List.Perm.append_left ([(h0, .inr (2, [.ref qa, .int (iI 0), .int (iI 0), .int (iI 0), .int (iI 0), .int (iI 0), .int (iI 0)])), (qa, .inl (E.2 3, 6, .inr (.inr (.inr (.inr (fI (gsU gs i u) (i + 1)))))))] : va_W) List.perm_append_comm)
      refine lv_iinc (v := iI ((i : Int) + 1)) (lv' := [(1, .int (iI ((i : Int) + 1))), (0, .ref h0)]) hx hb dX2_init_64 hl (k := 0) rfl (by rw [← iI_add]; rfl) (by decide) rfl (fun ls hl => ?_)
      refine lv_goto (tgt := 45) hx hb dX2_init_67 (by decide) ?_
      refine W.widen (k := 1 + 4 * (i + 1)) (n := 6 + 34 * (i + 1)) (by omega) (by omega) ?_
      exact ih (i + 1) (gsU gs i u) (by omega) H locs ls hP hD hS (by rw [show (((i + 1 : Nat) : Int)) = (i : Int) + 1 by omega]; exact hl)
  have hP : va_P E.1 vwCl ([(h0, .inr (2, [.ref qa, .int (iI 0), .int (iI 0), .int (iI 0), .int (iI 0), .int (iI 0), .int (iI 0)])), (qa, .inl (E.2 3, 6, .inr (.inr (.inr (.inr (fI (fun _ _ => 0) 0))))))] ++ gl E (fun _ _ => 0) 0) H := zP_perm (zP_row (fun j _ => by unfold fI; rw [if_neg (by omega)]) (zP_perm hP (List.Perm.swap _ _ _))) (List.Perm.swap _ _ _)
  have hD : va_D A ([(h0, .inr (2, [.ref qa, .int (iI 0), .int (iI 0), .int (iI 0), .int (iI 0), .int (iI 0), .int (iI 0)])), (qa, .inl (E.2 3, 6, .inr (.inr (.inr (.inr (fI (fun _ _ => 0) 0))))))] ++ gl E (fun _ _ => 0) 0) := zD_perm (zD_row (zD_perm hD (List.Perm.swap _ _ _))) (List.Perm.swap _ _ _)
  exact hloop 6 0 (fun _ _ => 0) rfl H locs ls hP hD hS hl
