theorem zIn_hd {j : Int} (h : j < 7) : zIn 6 j = 0 := by
  have key : ∀ n : Nat, itr (fun g y => iU y (7 + 60 * g + 0) 3) z0 n j = 0 := by
    intro n
    induction n with
    | zero => rfl
    | succ n ih =>
      show iU (itr (fun g y => iU y (7 + 60 * g + 0) 3) z0 n) (7 + 60 * (n : Int) + 0) 3 j = 0
      rw [iU_ne (by omega)]
      exact ih
  exact key 6
theorem zIn_k {g k : Int} (h : 0 ≤ g ∧ g ≤ 5) (hk : 0 ≤ k ∧ k < 60) : zg (zIn 6) g k = if k = 0 then 3 else 0 := by
  have key : ∀ n : Nat, itr (fun g y => iU y (7 + 60 * g + 0) 3) z0 n (7 + 60 * g + k) = if g < n ∧ k = 0 then 3 else 0 := by
    intro n
    induction n with
    | zero => exact (if_neg (by omega)).symm
    | succ n ih =>
      show iU (itr (fun g y => iU y (7 + 60 * g + 0) 3) z0 n) (7 + 60 * (n : Int) + 0) 3 (7 + 60 * g + k) = _
      by_cases c : g = n ∧ k = 0
      · rw [c.1, c.2, iU_same, if_pos (by omega)]
      · rw [iU_ne (by omega), ih]
        by_cases c2 : g < (n : Int) ∧ k = 0
        · rw [if_pos c2, if_pos (by omega)]
        · rw [if_neg c2, if_neg (by omega)]
  have h6 := key 6
  show itr (fun g y => iU y (7 + 60 * g + 0) 3) z0 6 (7 + 60 * g + k) = _
  rw [h6]
  by_cases c : k = 0
  · rw [if_pos c, if_pos (by omega)]
  · rw [if_neg c, if_neg (by omega)]
theorem RT0 : RT 0 N0i (zIn 6) := by
  refine ⟨⟨⟨zIn_hd (by omega), zIn_hd (by omega), fun _ => zIn_hd (by omega), zIn_hd (by omega), zIn_hd (by omega), zIn_hd (by omega)⟩, ⟨Or.inl rfl, Or.inl rfl, Int.le_refl 0, Int.le_refl 0⟩, ⟨fun g k hk => ?_, fun g a b => ?_, Or.inl (zIn_hd (by omega)), Or.inl (zIn_hd (by omega)), ?_, ?_⟩, fun g a b => ?_⟩, fun g a b j c d => Or.inr ⟨Int.le_refl 0, by show (0 : Int) ≤ 9999; omega⟩⟩
  · rw [zIn_k (by omega) (by omega)]
    split
    · exact ⟨by omega, by omega⟩
    · exact ⟨by omega, by omega⟩
  · rw [zIn_k ⟨a, b⟩ (by omega), zIn_k ⟨a, b⟩ (by omega), zIn_k ⟨a, b⟩ (by omega)]
    decide
  · rw [zIn_hd (by omega)]
    exact Int.le_refl 0
  · rw [zIn_hd (by omega)]
    exact Int.le_refl 0
  · rw [zIn_hd (j := 6) (by omega), zIn_hd (j := 1) (by omega)]
    have hk := fun (k : Int) (h : 0 ≤ k ∧ k < 60) => zIn_k (g := g) (k := k) ⟨a, b⟩ h
    refine ⟨⟨(hk 0 (by omega)).trans rfl, (hk 1 (by omega)).trans rfl, (hk 2 (by omega)).trans rfl, (hk 3 (by omega)).trans rfl, (hk 4 (by omega)).trans rfl⟩, ?_, ?_, ?_, ?_, ?_, ?_⟩
    · intro p h0 h1
      have h1 : p < 0 := h1
      omega
    · intro p h0 h1
      have h1 : p < 0 := h1
      omega
    · intro k h0 h1
      rw [hk (7 + k) (by omega), if_neg (by omega)]
      refine ⟨Int.le_refl 0, Int.le_refl 0, fun p h2 h3 => ?_⟩
      have h3 : p < 0 := h3
      omega
    · intro h
      omega
    · intro h
      have h : (0 : Int) < 0 := h
      omega
    · exact ⟨⟨⟨Int.le_refl 0, Int.le_refl 0⟩, ⟨Int.le_refl 0, by show (0 : Int) ≤ 8; omega, Int.le_refl 0⟩, fun j _ _ => ⟨by show -2147483648 ≤ (0 : Int); omega, by show (0 : Int) < 2147483648; omega⟩, ⟨by show (1 : Int) ≤ 3; omega, by show (3 : Int) ≤ 8; omega⟩, ⟨Int.le_refl 0, Int.le_refl 0⟩, ⟨Int.le_refl 0, Int.le_refl 0⟩⟩, by show (0 : Int) ≤ 3; omega, Int.le_refl 0⟩
theorem Rel0 : Rel 0 0 z0 z0 0 hv0 hv0 0 0 0 0 0 0 G0i (zIn 6) z0 z0 z0 z0 0 0 := by
  have hok : okN N0i := RT0.ok (by omega)
  exact ⟨RT0, ⟨rfl, by omega, fun k _ _ => hok, fun i a b => absurd b (by omega)⟩, ⟨fun k _ _ => ⟨hok, Or.inl rfl⟩, fun _ => Or.inl rfl, fun k _ _ => ⟨rfl, fun q => absurd rfl q⟩⟩, ⟨rfl, rfl, by omega, fun j a b => absurd b (by omega)⟩⟩
theorem z_arrP {s : State} {args : Array Value} {ty : FieldType} (h : (Cond.arrayClass ty).before args s = true) (hra : ∀ (U : State) (k : ClassId), U.vm.findClass ("[" ++ ty.toString) = some k → va_RA U k ty) (hnr : ∀ k : String, ty ≠ .object k) : ∃ cA : ClassId, ArrOfT s cA ty ∧ va_RA s cA ty := by
  obtain ⟨cA, kA, comp, h1, h2, h3⟩ := Cond.arrayClass_spec h
  exact ⟨cA, fun N z => ⟨(fun k h => by cases h), kA, h2, comp, h3⟩, hra s cA h1⟩
theorem z_arrO {s : State} {args : Array Value} {C : String} (h : (Cond.arrayOver (.object C)).before args s = true) : ∃ cA : ClassId, ArrOfT s cA (.object C) ∧ va_RA s cA (.object C) := by
  obtain ⟨comp, c, k, h1, h2, h3, h4, h5⟩ := Cond.arrayOver_spec h
  exact ⟨c, fun N z => ⟨(fun k h => by cases h), k, h3, comp, h4⟩, k, comp, h3, h4, h1, h5⟩
section
variable {p : Program} {l : Launch} {e : Env} {s : State} {m : MethodId} {below : List Frame} {meth : Method} {c : Code} {b L : Nat} {xs : Nat → Int32} {E : zE} {q nq qm : Nat → Nat} {sa : Int → Nat → Nat}
set_option maxRecDepth 100000 in
set_option maxHeartbeats 400000 in
theorem law_loop (C0 : lw_At p s m meth c b L xs) (hK : va_K E.1 vwCl (zT E) s) (hL : L ≤ 2048) : ∀ (n i : Nat) (ls : Array Slot), i ≤ L + 4 → L + 8 ≤ i + n → lv_has ls 4 [(3, .int (iI (i : Int))), (2, .ref (qm 0)), (1, .ref (q 0)), (0, .ref b)] → lawK p l e s m below meth c b E q nq qm sa (lw_Z below #[Value.ref b] s) ls (100 * (i : Int)) 18 := by
  obtain ⟨hx, hb, hr, hml, hown, hts, hX, hbl, hlocks, hgv⟩ := id C0
  have hb : c.code = cL_law := hb
  have hbA : ¬ (fun a : Nat => s.heap.size ≤ a) b := Nat.not_le.mpr hbl
  intro n
  induction n with
  | zero =>
    intro i ls h1 h2
    exact absurd h2 (by omega)
  | succ n ih =>
    intro i ls h1 h2 hl
    have kk : i + 4 ≤ L → lawK p l e s m below meth c b E q nq qm sa (lw_Z below #[Value.ref b] s) ls (100 * (i : Int) + 100) 702 := by
      intro hi4 ha un svd sg le hv sv jb jr lf jf rd vr G z pa sl msv sp pd od pm ty om st wr H locs hR hP hD hS
      refine lv_iinc (v := iI ((i : Int) + 4)) (lv' := [(3, .int (iI ((i : Int) + 4))), (2, .ref (qm 0)), (1, .ref (q 0)), (0, .ref b)]) hx hb dL_law_702 hl (k := 0) rfl (by rw [← iI_add]; rfl) (by decide) rfl (fun ls hl => ?_)
      refine lv_goto (tgt := 18) hx hb dL_law_705 (by decide) ?_
      exact ih (i + 4) ls (by omega) (by omega) (by rw [show (((i + 4 : Nat) : Int)) = (i : Int) + 4 by omega]; exact hl) _ _ _ _ _ _ _ _ _ _ _ _ _ _ _ _ _ _ _ _ _ _ _ _ _ _ H locs (hR.mono (by omega)) hP hD hS
    intro ha un svd sg le hv sv jb jr lf jf rd vr G z pa sl msv sp pd od pm ty om st wr H locs hR hP hD hS
    refine lv_iload_n hx hb dL_law_18 rfl (lv_at hl 0 rfl) ?_
    refine lv_aload_n hx hb dL_law_19 rfl (lv_at hl 3 rfl) ?_
    refine z_slen hx hb hX hbl hbA hS dL_law_20 ?_
    refine lv_iconst (v := iI 4) hx hb dL_law_21 (by decide) ?_
    refine z_isub hx hb dL_law_22 ?_
    refine z_icmp_gt (tgt := 708) hx hb dL_law_23 (by decide) ⟨by omega, by omega⟩ ⟨by omega, by omega⟩ (fun _ => ?_) (fun hc => ?_)
    · refine lv_iconst (v := 1) hx hb dL_law_708 (by decide) ?_
      refine va_forget (fun a ha => hS.2.2 a ha) ?_
      refine W.widen (k := 600000) (n := 7302250) (Nat.le_of_ble_eq_true rfl) (Nat.le_of_ble_eq_true rfl) ?_
      exact lw_ret hx hb hr hlocks dL_law_709
    · have hi4 : i + 4 ≤ L := by omega
      have hB : 100 * (i : Int) ≤ 90000000 := by omega
      have hii : 0 ≤ (i : Int) ∧ (i : Int) + 4 ≤ L := by omega
      refine lv_aload_n hx hb dL_law_26 rfl (lv_at hl 3 rfl) ?_
      refine lv_iload_n hx hb dL_law_27 rfl (lv_at hl 0 rfl) ?_
      obtain ⟨a0, e0⟩ : ∃ v : Int, (xs ((i : Int)).toNat).toInt = v := ⟨_, rfl⟩
      refine z_sld hx hb hX hbl hbA hS e0 (by omega) (by omega) (by omega) dL_law_28 ?_
      refine lv_bipush (v := iI 31) hx hb dL_law_29 (by decide) ?_
      refine z_iand31 hx hb dL_law_31 ?_
      obtain ⟨v, ev⟩ : ∃ v : Int, a0 % 32 = v := ⟨_, rfl⟩
      have hv32 : 0 ≤ v ∧ v ≤ 31 := by omega
      rw [ev]
      clear ev e0
      rcases (show v = 0 ∨ v = 1 ∨ v = 2 ∨ v = 3 ∨ v = 4 ∨ v = 5 ∨ v = 6 ∨ v = 7 ∨ v = 8 ∨ v = 9 ∨ v = 10 ∨ v = 11 ∨ v = 12 ∨ v = 13 ∨ v = 14 ∨ v = 15 ∨ v = 16 ∨ v = 17 ∨ v = 18 ∨ v = 19 ∨ v = 20 ∨ v = 21 ∨ 22 ≤ v by omega) with rfl | rfl | rfl | rfl | rfl | rfl | rfl | rfl | rfl | rfl | rfl | rfl | rfl | rfl | rfl | rfl | rfl | rfl | rfl | rfl | rfl | rfl | hbig
      · refine lv_tableIn (off := 104) (tgt := 136) hx hb dL_law_32 (by decide) (by decide) (by decide) (by decide) ?_
        exact law_keep C0 hK hB hii hL hl (kk hi4) _ _ _ _ _ _ _ _ _ _ _ _ _ _ _ _ _ _ _ _ _ _ _ _ _ _ H locs hR hP hD hS
      · refine lv_tableIn (off := 137) (tgt := 169) hx hb dL_law_32 (by decide) (by decide) (by decide) (by decide) ?_
        exact law_write C0 hK hB hii hL hl (kk hi4) _ _ _ _ _ _ _ _ _ _ _ _ _ _ _ _ _ _ _ _ _ _ _ _ _ _ H locs hR hP hD hS
      · refine lv_tableIn (off := 180) (tgt := 212) hx hb dL_law_32 (by decide) (by decide) (by decide) (by decide) ?_
        exact law_read C0 hK hB hii hL hl (kk hi4) _ _ _ _ _ _ _ _ _ _ _ _ _ _ _ _ _ _ _ _ _ _ _ _ _ _ H locs hR hP hD hS
      · refine lv_tableIn (off := 213) (tgt := 245) hx hb dL_law_32 (by decide) (by decide) (by decide) (by decide) ?_
        exact law_delete C0 hK hB hii hL hl (kk hi4) _ _ _ _ _ _ _ _ _ _ _ _ _ _ _ _ _ _ _ _ _ _ _ _ _ _ H locs hR hP hD hS
      · refine lv_tableIn (off := 246) (tgt := 278) hx hb dL_law_32 (by decide) (by decide) (by decide) (by decide) ?_
        exact law_begin C0 hK hB hii hL hl (kk hi4) _ _ _ _ _ _ _ _ _ _ _ _ _ _ _ _ _ _ _ _ _ _ _ _ _ _ H locs hR hP hD hS
      · refine lv_tableIn (off := 259) (tgt := 291) hx hb dL_law_32 (by decide) (by decide) (by decide) (by decide) ?_
        exact law_end C0 hK hB hii hL hl (kk hi4) _ _ _ _ _ _ _ _ _ _ _ _ _ _ _ _ _ _ _ _ _ _ _ _ _ _ H locs hR hP hD hS
      · refine lv_tableIn (off := 282) (tgt := 314) hx hb dL_law_32 (by decide) (by decide) (by decide) (by decide) ?_
        exact law_again C0 hK hB hii hL hl (kk hi4) _ _ _ _ _ _ _ _ _ _ _ _ _ _ _ _ _ _ _ _ _ _ _ _ _ _ H locs hR hP hD hS
      · refine lv_tableIn (off := 295) (tgt := 327) hx hb dL_law_32 (by decide) (by decide) (by decide) (by decide) ?_
        exact law_ofGroup C0 hK hB hii hL hl (kk hi4) _ _ _ _ _ _ _ _ _ _ _ _ _ _ _ _ _ _ _ _ _ _ _ _ _ _ H locs hR hP hD hS
      · refine lv_tableIn (off := 328) (tgt := 360) hx hb dL_law_32 (by decide) (by decide) (by decide) (by decide) ?_
        exact law_generation C0 hK hB hii hL hl (kk hi4) _ _ _ _ _ _ _ _ _ _ _ _ _ _ _ _ _ _ _ _ _ _ _ _ _ _ H locs hR hP hD hS
      · refine lv_tableIn (off := 371) (tgt := 403) hx hb dL_law_32 (by decide) (by decide) (by decide) (by decide) ?_
        exact law_named C0 hK hB hii hL hl (kk hi4) _ _ _ _ _ _ _ _ _ _ _ _ _ _ _ _ _ _ _ _ _ _ _ _ _ _ H locs hR hP hD hS
      · refine lv_tableIn (off := 404) (tgt := 436) hx hb dL_law_32 (by decide) (by decide) (by decide) (by decide) ?_
        exact law_count C0 hK hB hii hL hl (kk hi4) _ _ _ _ _ _ _ _ _ _ _ _ _ _ _ _ _ _ _ _ _ _ _ _ _ _ H locs hR hP hD hS
      · refine lv_tableIn (off := 427) (tgt := 459) hx hb dL_law_32 (by decide) (by decide) (by decide) (by decide) ?_
        exact law_groups C0 hK hB hii hL hl (kk hi4) _ _ _ _ _ _ _ _ _ _ _ _ _ _ _ _ _ _ _ _ _ _ _ _ _ _ H locs hR hP hD hS
      · refine lv_tableIn (off := 450) (tgt := 482) hx hb dL_law_32 (by decide) (by decide) (by decide) (by decide) ?_
        exact law_rolls C0 hK hB hii hL hl (kk hi4) _ _ _ _ _ _ _ _ _ _ _ _ _ _ _ _ _ _ _ _ _ _ _ _ _ _ H locs hR hP hD hS
      · refine lv_tableIn (off := 473) (tgt := 505) hx hb dL_law_32 (by decide) (by decide) (by decide) (by decide) ?_
        exact law_ifFailed C0 hK hB hii hL hl (kk hi4) _ _ _ _ _ _ _ _ _ _ _ _ _ _ _ _ _ _ _ _ _ _ _ _ _ _ H locs hR hP hD hS
      · refine lv_tableIn (off := 496) (tgt := 528) hx hb dL_law_32 (by decide) (by decide) (by decide) (by decide) ?_
        exact law_leastKeep C0 hK hB hii hL hl (kk hi4) _ _ _ _ _ _ _ _ _ _ _ _ _ _ _ _ _ _ _ _ _ _ _ _ _ _ H locs hR hP hD hS
      · refine lv_tableIn (off := 519) (tgt := 551) hx hb dL_law_32 (by decide) (by decide) (by decide) (by decide) ?_
        exact law_put C0 hK hB hii hL hl (kk hi4) _ _ _ _ _ _ _ _ _ _ _ _ _ _ _ _ _ _ _ _ _ _ _ _ _ _ H locs hR hP hD hS
      · refine lv_tableIn (off := 572) (tgt := 604) hx hb dL_law_32 (by decide) (by decide) (by decide) (by decide) ?_
        exact law_wipe C0 hK hB hii hL hl (kk hi4) _ _ _ _ _ _ _ _ _ _ _ _ _ _ _ _ _ _ _ _ _ _ _ _ _ _ H locs hR hP hD hS
      · refine lv_tableIn (off := 585) (tgt := 617) hx hb dL_law_32 (by decide) (by decide) (by decide) (by decide) ?_
        exact law_fault C0 hK hB hii hL hl (kk hi4) _ _ _ _ _ _ _ _ _ _ _ _ _ _ _ _ _ _ _ _ _ _ _ _ _ _ H locs hR hP hD hS
      · refine lv_tableIn (off := 598) (tgt := 630) hx hb dL_law_32 (by decide) (by decide) (by decide) (by decide) ?_
        exact law_carryOut C0 hK hB hii hL hl (kk hi4) _ _ _ _ _ _ _ _ _ _ _ _ _ _ _ _ _ _ _ _ _ _ _ _ _ _ H locs hR hP hD hS
      · refine lv_tableIn (off := 611) (tgt := 643) hx hb dL_law_32 (by decide) (by decide) (by decide) (by decide) ?_
        exact law_undo C0 hK hB hii hL hl (kk hi4) _ _ _ _ _ _ _ _ _ _ _ _ _ _ _ _ _ _ _ _ _ _ _ _ _ _ H locs hR hP hD hS
      · refine lv_tableIn (off := 624) (tgt := 656) hx hb dL_law_32 (by decide) (by decide) (by decide) (by decide) ?_
        exact law_save C0 hK hB hii hL hl (kk hi4) _ _ _ _ _ _ _ _ _ _ _ _ _ _ _ _ _ _ _ _ _ _ _ _ _ _ H locs hR hP hD hS
      · refine lv_tableIn (off := 647) (tgt := 679) hx hb dL_law_32 (by decide) (by decide) (by decide) (by decide) ?_
        exact law_restore C0 hK hB hii hL hl (kk hi4) _ _ _ _ _ _ _ _ _ _ _ _ _ _ _ _ _ _ _ _ _ _ _ _ _ _ H locs hR hP hD hS
      · refine lv_tableOut (tgt := 702) hx hb dL_law_32 (Or.inr (by rw [toInt_iI ⟨by omega, by omega⟩]; omega)) (by decide) ?_
        exact kk hi4 _ _ _ _ _ _ _ _ _ _ _ _ _ _ _ _ _ _ _ _ _ _ _ _ _ _ H locs (hR.mono (by omega)) hP hD hS
end
set_option maxRecDepth 100000 in
set_option maxHeartbeats 1000000 in
/-- THE LAW, from its entry -/
theorem whole_start {p : Program} {e : Env} {s : State} {m : MethodId} {below : List Frame} {meth : Method} {c : Code} (l : Launch) (hflags : l.flags = flags0) {b L : Nat} {xs : Nat → Int32} (hL : L ≤ 2048) (C0 : lw_At p s m meth c b L xs) : W p l e room_1 s m #[Value.ref b] below meth c s.heap [] 0 0 (lw_Z below #[Value.ref b] s) (entryFrame m ([Value.ref b] : List Value).toArray 4) := by
  obtain ⟨hx, hb, hr, hml, hown, hts, hX, hbl, hlocks, hgv⟩ := id C0
  have hb : c.code = cL_law := hb
  have hown : s.vm.findClass RL = some m.cls := hown
  have htsL : ∀ v ∈ wsL_law, v.before #[.ref b] s = true := fun v h => hts v (wsL_law_in v h)
  have hA : ∀ a : Nat, s.heap.size ≤ a → (fun a : Nat => s.heap.size ≤ a) a := fun _ h => h
  have hbA : ¬ (fun a : Nat => s.heap.size ≤ a) b := Nat.not_le.mpr hbl
  obtain ⟨k0, j0, hK0⟩ := u_known (C := RX0) (T := TX0) (N := 10) (n := 10) hts inX0 (hts (.instantiable RX0 10) (List.mem_append_right _ (List.mem_of_getElem? (i := 24) (by decide +kernel))))
  obtain ⟨k1, j1, hK1⟩ := u_known (C := RX1) (T := TX1) (N := 2) (n := 2) hts inX1 (hts (.instantiable RX1 2) (List.mem_append_right _ (List.mem_of_getElem? (i := 95) (by decide +kernel))))
  obtain ⟨k2, j2, hK2⟩ := u_known (C := RX2) (T := TX2) (N := 7) (n := 7) hts inX2 (hts (.instantiable RX2 7) (List.mem_append_right _ (List.mem_of_getElem? (i := 17) (by decide +kernel))))
  obtain ⟨k3, j3, hK3⟩ := u_known (C := RX3) (T := TX3) (N := 6) (n := 6) hts inX3 (hts (.instantiable RX3 6) (List.mem_append_right _ (List.mem_of_getElem? (i := 9) (by decide +kernel))))
  obtain ⟨k4, j4, hK4⟩ := u_known (C := RX4) (T := TX4) (N := 12) (n := 12) hts inX4 (hts (.instantiable RX4 12) (List.mem_append_right _ (List.mem_of_getElem? (i := 467) (by decide +kernel))))
  obtain ⟨t0, hT0⟩ := z_arrP (ty := .int) (hts (.arrayClass .int) (List.mem_append_right _ (List.mem_of_getElem? (i := 70) (by decide +kernel)))) (fun _ _ h => h) (fun k h => by cases h)
  obtain ⟨t1, hT1⟩ := z_arrP (ty := .boolean) (hts (.arrayClass .boolean) (List.mem_append_right _ (List.mem_of_getElem? (i := 107) (by decide +kernel)))) (fun _ _ h => h) (fun k h => by cases h)
  obtain ⟨t2, hT2⟩ := z_arrP (ty := .char) (hts (.arrayClass .char) (List.mem_append_right _ (List.mem_of_getElem? (i := 108) (by decide +kernel)))) (fun _ _ h => h) (fun k h => by cases h)
  obtain ⟨t3, hT3⟩ := z_arrO (C := RX0) (hts (.arrayOver (.object RX0)) (List.mem_append_right _ (List.mem_of_getElem? (i := 23) (by decide +kernel))))
  obtain ⟨t4, hT4⟩ := z_arrO (C := RX2) (hts (.arrayOver (.object RX2)) (List.mem_append_right _ (List.mem_of_getElem? (i := 93) (by decide +kernel))))
  obtain ⟨E, hK⟩ : ∃ E : zE, va_K E.1 vwCl (zT E) s := by
    refine ⟨((fun k => if k = 0 then k0 else if k = 1 then k1 else if k = 2 then k2 else if k = 3 then k3 else k4, fun k => if k = 0 then j0 else if k = 1 then j1 else if k = 2 then j2 else if k = 3 then j3 else j4), fun k => if k = 0 then t0 else if k = 1 then t1 else if k = 2 then t2 else if k = 3 then t3 else t4), ?_, ?_⟩
    · intro k q hq
      match k, hq with
      | 0, hq => cases hq; exact hK0
      | 1, hq => cases hq; exact hK1
      | 2, hq => cases hq; exact hK2
      | 3, hq => cases hq; exact hK3
      | 4, hq => cases hq; exact hK4
      | k + 5, hq => simp [vwCl] at hq
    · intro k q hq
      match k, hq with
      | 0, hq => cases hq; exact hT0
      | 1, hq => cases hq; exact hT1
      | 2, hq => cases hq; exact hT2
      | 3, hq => cases hq; exact hT3
      | 4, hq => cases hq; exact hT4
      | k + 5, hq => simp [zT] at hq
  have hAO : zAO s := ⟨va_AO.of (hts (.arrayOver (.object RX0)) (List.mem_append_right _ (List.mem_of_getElem? (i := 23) (by decide +kernel)))), va_AO.of (hts (.arrayOver (.object RX2)) (List.mem_append_right _ (List.mem_of_getElem? (i := 93) (by decide +kernel)))), va_Nw.of rfl (hts (.methodLinkNest RX2 37 yX0_init "GenerationNames") (List.mem_append_right _ (List.mem_of_getElem? (i := 25) (by decide +kernel)))), va_Nw.of rfl (hts (.methodLinkNest RX3 33 yX1_init "GenerationNames") (List.mem_append_right _ (List.mem_of_getElem? (i := 96) (by decide +kernel))))⟩
  have hS : va_S (fun a : Nat => s.heap.size ≤ a) s.heap s.heap [] := va_S.rf
  have hP : va_P E.1 vwCl [] s.heap := fun k q h => by simp at h
  have hD : va_D (fun a : Nat => s.heap.size ≤ a) [] := ⟨fun i j p q h => by simp at h, fun k q h => by simp at h⟩
  have hl := lv_entry ([.ref b]) (n := 4) (Nat.le_of_ble_eq_true rfl)
  rw [lg_entry_eq]
  generalize (lg_sl ([.ref b]) ++ List.replicate (4 - (lg_sl ([.ref b])).length) Slot.unset).toArray = ls at hl ⊢
  have hl : lv_has ls 4 [(0, .ref b)] := hl
  refine z_make (own := RL) (T := TX3) (N := 6) (ci := 3) (bytes := cX3_init) hx hb hml hown htsL inlX3 tyX3 tyX3_ok (hts _ (wsL_law_r1_g (.classLink RL 7 RX3) (by decide +kernel)).1) (hts _ (wsL_law_r1_g (.instantiable RX3 6) (by decide +kernel)).1) (hts _ (wsL_law_r1_g (.initialized RX3) (by decide +kernel)).1) (hts _ (wsL_law_r1_g (.methodLink RL 9 yX3_init) (by decide +kernel)).1) (hts _ (wsL_law_r1_g (.instanceMethod yX3_init) (by decide +kernel)).1) hK hAO hA hl.1 hP hD hS rfl (fun j hj => by rcases (show j = 0 ∨ j = 1 ∨ j = 2 ∨ j = 3 ∨ j = 4 ∨ j = 5 by omega) with rfl | rfl | rfl | rfl | rfl | rfl <;> rfl) (c_X3_init l E) gL_law_X3_init rfl rfl rfl ⟨by decide +kernel, by decide +kernel, by decide +kernel⟩ ⟨Nat.le_of_ble_eq_true rfl, Nat.le_of_ble_eq_true rfl⟩ (fun _ => Nat.le_of_ble_eq_true rfl) (Nat.le_of_ble_eq_true rfl) (Nat.le_of_ble_eq_true rfl) dL_law_0 dL_law_3 dL_law_4 (fun u H locs hP hD hS => ?_)
  rw [List.append_nil] at hP hD
  refine lv_astore_n (lv' := [(1, .ref (u.1 0)), (0, .ref b)]) hx hb dL_law_7 rfl hl (by decide) rfl (fun ls hl => ?_)
  refine z_make (own := RL) (T := TX4) (N := 12) (ci := 4) (bytes := cX4_init) hx hb hml hown htsL inlX4 tyX4 tyX4_ok (hts _ (wsL_law_r1_g (.classLink RL 10 RX4) (by decide +kernel)).1) (hts _ (wsL_law_r1_g (.instantiable RX4 12) (by decide +kernel)).1) (hts _ (wsL_law_r1_g (.initialized RX4) (by decide +kernel)).1) (hts _ (wsL_law_r3_g (.methodLink RL 12 yX4_init) (by decide +kernel)).1) (hts _ (wsL_law_r3_g (.instanceMethod yX4_init) (by decide +kernel)).1) hK hAO hA hl.1 hP hD hS rfl (fun j hj => by rcases (show j = 0 ∨ j = 1 ∨ j = 2 ∨ j = 3 ∨ j = 4 ∨ j = 5 ∨ j = 6 ∨ j = 7 ∨ j = 8 ∨ j = 9 ∨ j = 10 ∨ j = 11 by omega) with rfl | rfl | rfl | rfl | rfl | rfl | rfl | rfl | rfl | rfl | rfl | rfl <;> rfl) (c_X4_init l E) gL_law_X4_init rfl rfl rfl ⟨by decide +kernel, by decide +kernel, by decide +kernel⟩ ⟨Nat.le_of_ble_eq_true rfl, Nat.le_of_ble_eq_true rfl⟩ (fun _ => Nat.le_of_ble_eq_true rfl) (Nat.le_of_ble_eq_true rfl) (Nat.le_of_ble_eq_true rfl) dL_law_8 dL_law_11 dL_law_12 (fun w H locs hP hD hS => ?_)
  have hP := zP_perm hP List.perm_append_comm
  have hD := zD_perm hD List.perm_append_comm
  refine lv_astore_n (lv' := [(2, .ref (w 0)), (1, .ref (u.1 0)), (0, .ref b)]) hx hb dL_law_15 rfl hl (by decide) rfl (fun ls hl => ?_)
  refine lv_iconst (v := iI 0) hx hb dL_law_16 (by decide) ?_
  refine lv_istore_n (lv' := [(3, .int (iI 0)), (2, .ref (w 0)), (1, .ref (u.1 0)), (0, .ref b)]) hx hb dL_law_17 rfl hl (by decide) rfl (fun ls hl => ?_)
  refine W.widen (k := 274) (n := 6197) (Nat.le_of_ble_eq_true rfl) (Nat.le_of_ble_eq_true rfl) ?_
  exact law_loop C0 hK hL (L + 8) 0 ls (by omega) (by omega) hl _ _ _ _ _ _ _ _ _ _ _ _ _ _ _ _ _ _ _ _ _ _ _ _ _ _ H locs Rel0 hP hD hS
