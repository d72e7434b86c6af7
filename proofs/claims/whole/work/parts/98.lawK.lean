section
variable {p : Program} {l : Launch} {e : Env} {s : State} {m : MethodId} {below : List Frame} {meth : Method} {c : Code} {b L : Nat} {xs : Nat → Int32} {E : zE} {q nq qm : Nat → Nat} {sa : Int → Nat → Nat} {Q : State → Prop} {ls : Array Slot} {B : Int}
set_option maxRecDepth 100000 in
set_option maxHeartbeats 400000 in
theorem law_keep (C0 : lw_At p s m meth c b L xs) (hK : va_K E.1 vwCl (zT E) s) (hB : B ≤ 90000000) {i : Int} (hi : 0 ≤ i ∧ i + 4 ≤ L) (hL : L ≤ 2048) (hl : lv_has ls 4 [(3, .int (iI i)), (2, .ref (qm 0)), (1, .ref (q 0)), (0, .ref b)]) (kk : lawK p l e s m below meth c b E q nq qm sa Q ls (B + 100) 702) : lawK p l e s m below meth c b E q nq qm sa Q ls B 136 := by
  intro ha un svd sg le hv sv jb jr lf jf rd vr G z pa sl msv sp pd od pm ty om st wr H locs hR hP hD hS
  obtain ⟨hx, hb, hr, hml, hown, hts, hX, hbl, hlocks, hgv⟩ := id C0
  have hb : c.code = cL_law := hb
  have hown : s.vm.findClass RL = some m.cls := hown
  have htsL : ∀ v ∈ wsL_law, v.before #[.ref b] s = true := fun v h => hts v (wsL_law_in v h)
  have hA : ∀ a : Nat, s.heap.size ≤ a → (fun a : Nat => s.heap.size ≤ a) a := fun _ h => h
  have hbA : ¬ (fun a : Nat => s.heap.size ≤ a) b := Nat.not_le.mpr hbl
  obtain ⟨f1, f2, f3, f4, f5, f6, f7, f8, f9, f10, f11, f12, f13, f14, f15, f16, f17, f18⟩ := Rel_facts hR hB
  have f19 : AG z := f16.ag
  have f20 : CZ z := f16.1
  obtain ⟨a1, e1⟩ : ∃ v : Int, (xs (i + 1).toNat).toInt = v := ⟨_, rfl⟩
  have r1 : rg a1 := by rw [← e1]; exact iI_rg _
  obtain ⟨a2, e2⟩ : ∃ v : Int, (xs (i + 2).toNat).toInt = v := ⟨_, rfl⟩
  have r2 : rg a2 := by rw [← e2]; exact iI_rg _
  refine lv_aload_n hx hb dL_law_136 rfl (lv_at hl 2 rfl) ?_
  refine lv_aload_n hx hb dL_law_137 rfl (lv_at hl 3 rfl) ?_
  refine lv_iload_n hx hb dL_law_138 rfl (lv_at hl 0 rfl) ?_
  refine lv_iconst (v := iI 1) hx hb dL_law_139 (by decide) ?_
  refine z_iadd hx hb dL_law_140 ?_
  refine z_sld hx hb hX hbl hbA hS e1 (by omega) (by omega) (by omega) dL_law_141 ?_
  refine lv_aload_n hx hb dL_law_142 rfl (lv_at hl 3 rfl) ?_
  refine lv_iload_n hx hb dL_law_143 rfl (lv_at hl 0 rfl) ?_
  refine lv_iconst (v := iI 2) hx hb dL_law_144 (by decide) ?_
  refine z_iadd hx hb dL_law_145 ?_
  refine z_sld hx hb hX hbl hbA hS e2 (by omega) (by omega) (by omega) dL_law_146 ?_
  refine z_callV (w := wN E q nq sa ha un svd sg le hv sv jb jr lf jf rd vr G) (wr := wM E qm z pa sl msv sp pd od pm ty om st wr) (ci := 3) (qk := 0) (As := [.int (iI a1), .int (iI a2)]) (rest := []) hx hb hml hown htsL hK hA hl.1 hP hD hS (c_X3_keep l E q nq sa ha un svd sg le hv sv jb jr lf jf rd vr G a1 a2 (by first | assumption | omega) (by first | assumption | omega) (by first | assumption | omega) (by first | assumption | omega) (by first | assumption | omega) (by first | assumption | omega)) gL_law_X3_keep rfl ndX3_keep ⟨Nat.le_of_ble_eq_true rfl, Nat.le_of_ble_eq_true rfl⟩ rfl rfl rfl rfl rfl (Nat.le_of_ble_eq_true rfl) dL_law_147 ⟨Nat.le_of_ble_eq_true rfl, Nat.le_of_ble_eq_true rfl⟩ (fun x u H locs hpost hP hD hS => ?_)
  subst x
  refine lv_aload_n hx hb dL_law_150 rfl (lv_at hl 1 rfl) ?_
  refine lv_aload_n hx hb dL_law_151 rfl (lv_at hl 3 rfl) ?_
  refine lv_iload_n hx hb dL_law_152 rfl (lv_at hl 0 rfl) ?_
  refine lv_iconst (v := iI 1) hx hb dL_law_153 (by decide) ?_
  refine z_iadd hx hb dL_law_154 ?_
  refine z_sld hx hb hX hbl hbA hS e1 (by omega) (by omega) (by omega) dL_law_155 ?_
  refine lv_aload_n hx hb dL_law_156 rfl (lv_at hl 3 rfl) ?_
  refine lv_iload_n hx hb dL_law_157 rfl (lv_at hl 0 rfl) ?_
  refine lv_iconst (v := iI 2) hx hb dL_law_158 (by decide) ?_
  refine z_iadd hx hb dL_law_159 ?_
  refine z_sld hx hb hX hbl hbA hS e2 (by omega) (by omega) (by omega) dL_law_160 ?_
  refine z_callL (w := wM E qm z pa sl msv sp pd od pm ty om st wr) (ci := 4) (qk := 0) (As := [.int (iI a1), .int (iI a2)]) (rest := [.int (iI _)]) hx hb hml hown htsL hK hA hl.1 hP hD hS (c_X4_keep l E qm z pa sl msv sp pd od pm ty om st wr a1 a2 (by first | assumption | omega) (by first | assumption | omega) (by first | assumption | omega) (by first | assumption | omega)) gL_law_X4_keep rfl ndX4_keep ⟨Nat.le_of_ble_eq_true rfl, Nat.le_of_ble_eq_true rfl⟩ rfl rfl rfl rfl rfl (Nat.le_of_ble_eq_true rfl) dL_law_161 ⟨Nat.le_of_ble_eq_true rfl, Nat.le_of_ble_eq_true rfl⟩ (fun x u H locs hpost hP hD hS => ?_)
  subst x
  have hans := L_keep (gr := a1) (k := a2) hR (by omega)
  refine lv_icmp_eq (tgt := 702) hx hb dL_law_164 (by decide) (fun _ => ?_) (fun q1 => absurd (by rw [hans.1]) q1)
  exact kk _ _ _ _ _ _ _ _ _ _ _ _ _ _ _ _ _ _ _ _ _ _ _ _ _ _ H locs hans.2 hP hD hS
set_option maxRecDepth 100000 in
set_option maxHeartbeats 400000 in
theorem law_write (C0 : lw_At p s m meth c b L xs) (hK : va_K E.1 vwCl (zT E) s) (hB : B ≤ 90000000) {i : Int} (hi : 0 ≤ i ∧ i + 4 ≤ L) (hL : L ≤ 2048) (hl : lv_has ls 4 [(3, .int (iI i)), (2, .ref (qm 0)), (1, .ref (q 0)), (0, .ref b)]) (kk : lawK p l e s m below meth c b E q nq qm sa Q ls (B + 100) 702) : lawK p l e s m below meth c b E q nq qm sa Q ls B 169 := by
  intro ha un svd sg le hv sv jb jr lf jf rd vr G z pa sl msv sp pd od pm ty om st wr H locs hR hP hD hS
  obtain ⟨hx, hb, hr, hml, hown, hts, hX, hbl, hlocks, hgv⟩ := id C0
  have hb : c.code = cL_law := hb
  have hown : s.vm.findClass RL = some m.cls := hown
  have htsL : ∀ v ∈ wsL_law, v.before #[.ref b] s = true := fun v h => hts v (wsL_law_in v h)
  have hA : ∀ a : Nat, s.heap.size ≤ a → (fun a : Nat => s.heap.size ≤ a) a := fun _ h => h
  have hbA : ¬ (fun a : Nat => s.heap.size ≤ a) b := Nat.not_le.mpr hbl
  obtain ⟨f1, f2, f3, f4, f5, f6, f7, f8, f9, f10, f11, f12, f13, f14, f15, f16, f17, f18⟩ := Rel_facts hR hB
  have f19 : AG z := f16.ag
  have f20 : CZ z := f16.1
  obtain ⟨a1, e1⟩ : ∃ v : Int, (xs (i + 1).toNat).toInt = v := ⟨_, rfl⟩
  have r1 : rg a1 := by rw [← e1]; exact iI_rg _
  obtain ⟨a2, e2⟩ : ∃ v : Int, (xs (i + 2).toNat).toInt = v := ⟨_, rfl⟩
  have r2 : rg a2 := by rw [← e2]; exact iI_rg _
  obtain ⟨a3, e3⟩ : ∃ v : Int, (xs (i + 3).toNat).toInt = v := ⟨_, rfl⟩
  have r3 : rg a3 := by rw [← e3]; exact iI_rg _
  refine lv_aload_n hx hb dL_law_169 rfl (lv_at hl 2 rfl) ?_
  refine lv_aload_n hx hb dL_law_170 rfl (lv_at hl 3 rfl) ?_
  refine lv_iload_n hx hb dL_law_171 rfl (lv_at hl 0 rfl) ?_
  refine lv_iconst (v := iI 1) hx hb dL_law_172 (by decide) ?_
  refine z_iadd hx hb dL_law_173 ?_
  refine z_sld hx hb hX hbl hbA hS e1 (by omega) (by omega) (by omega) dL_law_174 ?_
  refine lv_aload_n hx hb dL_law_175 rfl (lv_at hl 3 rfl) ?_
  refine lv_iload_n hx hb dL_law_176 rfl (lv_at hl 0 rfl) ?_
  refine lv_iconst (v := iI 2) hx hb dL_law_177 (by decide) ?_
  refine z_iadd hx hb dL_law_178 ?_
  refine z_sld hx hb hX hbl hbA hS e2 (by omega) (by omega) (by omega) dL_law_179 ?_
  refine lv_aload_n hx hb dL_law_180 rfl (lv_at hl 3 rfl) ?_
  refine lv_iload_n hx hb dL_law_181 rfl (lv_at hl 0 rfl) ?_
  refine lv_iconst (v := iI 3) hx hb dL_law_182 (by decide) ?_
  refine z_iadd hx hb dL_law_183 ?_
  refine z_sld hx hb hX hbl hbA hS e3 (by omega) (by omega) (by omega) dL_law_184 ?_
  refine z_callV (w := wN E q nq sa ha un svd sg le hv sv jb jr lf jf rd vr G) (wr := wM E qm z pa sl msv sp pd od pm ty om st wr) (ci := 3) (qk := 0) (As := [.int (iI a1), .int (iI a2), .int (iI a3)]) (rest := []) hx hb hml hown htsL hK hA hl.1 hP hD hS (c_X3_write l E q nq sa ha un svd sg le hv sv jb jr lf jf rd vr G a1 a2 a3 (by first | assumption | omega) (by first | assumption | omega) (by first | assumption | omega) (by first | assumption | omega) (by first | assumption | omega) (by first | assumption | omega) (by first | assumption | omega)) gL_law_X3_write rfl ndX3_write ⟨Nat.le_of_ble_eq_true rfl, Nat.le_of_ble_eq_true rfl⟩ rfl rfl rfl rfl rfl (Nat.le_of_ble_eq_true rfl) dL_law_185 ⟨Nat.le_of_ble_eq_true rfl, Nat.le_of_ble_eq_true rfl⟩ (fun x u H locs hpost hP hD hS => ?_)
  subst x
  refine lv_aload_n hx hb dL_law_188 rfl (lv_at hl 1 rfl) ?_
  refine lv_aload_n hx hb dL_law_189 rfl (lv_at hl 3 rfl) ?_
  refine lv_iload_n hx hb dL_law_190 rfl (lv_at hl 0 rfl) ?_
  refine lv_iconst (v := iI 1) hx hb dL_law_191 (by decide) ?_
  refine z_iadd hx hb dL_law_192 ?_
  refine z_sld hx hb hX hbl hbA hS e1 (by omega) (by omega) (by omega) dL_law_193 ?_
  refine lv_aload_n hx hb dL_law_194 rfl (lv_at hl 3 rfl) ?_
  refine lv_iload_n hx hb dL_law_195 rfl (lv_at hl 0 rfl) ?_
  refine lv_iconst (v := iI 2) hx hb dL_law_196 (by decide) ?_
  refine z_iadd hx hb dL_law_197 ?_
  refine z_sld hx hb hX hbl hbA hS e2 (by omega) (by omega) (by omega) dL_law_198 ?_
  refine lv_aload_n hx hb dL_law_199 rfl (lv_at hl 3 rfl) ?_
  refine lv_iload_n hx hb dL_law_200 rfl (lv_at hl 0 rfl) ?_
  refine lv_iconst (v := iI 3) hx hb dL_law_201 (by decide) ?_
  refine z_iadd hx hb dL_law_202 ?_
  refine z_sld hx hb hX hbl hbA hS e3 (by omega) (by omega) (by omega) dL_law_203 ?_
  refine z_callL (w := wM E qm z pa sl msv sp pd od pm ty om st wr) (ci := 4) (qk := 0) (As := [.int (iI a1), .int (iI a2), .int (iI a3)]) (rest := [.int (iI _)]) hx hb hml hown htsL hK hA hl.1 hP hD hS (c_X4_write l E qm z pa sl msv sp pd od pm ty om st wr a1 a2 a3 (by first | assumption | omega) (by first | assumption | omega) (by first | assumption | omega) (by first | assumption | omega) (by first | assumption | omega)) gL_law_X4_write rfl ndX4_write ⟨Nat.le_of_ble_eq_true rfl, Nat.le_of_ble_eq_true rfl⟩ rfl rfl rfl rfl rfl (Nat.le_of_ble_eq_true rfl) dL_law_204 ⟨Nat.le_of_ble_eq_true rfl, Nat.le_of_ble_eq_true rfl⟩ (fun x u H locs hpost hP hD hS => ?_)
  subst x
  have hans := L_write (gr := a1) (n := a2) (d := a3) hR (by omega)
  refine lv_icmp_eq (tgt := 702) hx hb dL_law_207 (by decide) (fun _ => ?_) (fun q1 => absurd (by rw [hans.1]) q1)
  exact kk _ _ _ _ _ _ _ _ _ _ _ _ _ _ _ _ _ _ _ _ _ _ _ _ _ _ H locs hans.2 hP hD hS
set_option maxRecDepth 100000 in
set_option maxHeartbeats 400000 in
theorem law_read (C0 : lw_At p s m meth c b L xs) (hK : va_K E.1 vwCl (zT E) s) (hB : B ≤ 90000000) {i : Int} (hi : 0 ≤ i ∧ i + 4 ≤ L) (hL : L ≤ 2048) (hl : lv_has ls 4 [(3, .int (iI i)), (2, .ref (qm 0)), (1, .ref (q 0)), (0, .ref b)]) (kk : lawK p l e s m below meth c b E q nq qm sa Q ls (B + 100) 702) : lawK p l e s m below meth c b E q nq qm sa Q ls B 212 := by
  intro ha un svd sg le hv sv jb jr lf jf rd vr G z pa sl msv sp pd od pm ty om st wr H locs hR hP hD hS
  obtain ⟨hx, hb, hr, hml, hown, hts, hX, hbl, hlocks, hgv⟩ := id C0
  have hb : c.code = cL_law := hb
  have hown : s.vm.findClass RL = some m.cls := hown
  have htsL : ∀ v ∈ wsL_law, v.before #[.ref b] s = true := fun v h => hts v (wsL_law_in v h)
  have hA : ∀ a : Nat, s.heap.size ≤ a → (fun a : Nat => s.heap.size ≤ a) a := fun _ h => h
  have hbA : ¬ (fun a : Nat => s.heap.size ≤ a) b := Nat.not_le.mpr hbl
  obtain ⟨f1, f2, f3, f4, f5, f6, f7, f8, f9, f10, f11, f12, f13, f14, f15, f16, f17, f18⟩ := Rel_facts hR hB
  have f19 : AG z := f16.ag
  have f20 : CZ z := f16.1
  obtain ⟨a1, e1⟩ : ∃ v : Int, (xs (i + 1).toNat).toInt = v := ⟨_, rfl⟩
  have r1 : rg a1 := by rw [← e1]; exact iI_rg _
  obtain ⟨a2, e2⟩ : ∃ v : Int, (xs (i + 2).toNat).toInt = v := ⟨_, rfl⟩
  have r2 : rg a2 := by rw [← e2]; exact iI_rg _
  refine lv_aload_n hx hb dL_law_212 rfl (lv_at hl 2 rfl) ?_
  refine lv_aload_n hx hb dL_law_213 rfl (lv_at hl 3 rfl) ?_
  refine lv_iload_n hx hb dL_law_214 rfl (lv_at hl 0 rfl) ?_
  refine lv_iconst (v := iI 1) hx hb dL_law_215 (by decide) ?_
  refine z_iadd hx hb dL_law_216 ?_
  refine z_sld hx hb hX hbl hbA hS e1 (by omega) (by omega) (by omega) dL_law_217 ?_
  refine lv_aload_n hx hb dL_law_218 rfl (lv_at hl 3 rfl) ?_
  refine lv_iload_n hx hb dL_law_219 rfl (lv_at hl 0 rfl) ?_
  refine lv_iconst (v := iI 2) hx hb dL_law_220 (by decide) ?_
  refine z_iadd hx hb dL_law_221 ?_
  refine z_sld hx hb hX hbl hbA hS e2 (by omega) (by omega) (by omega) dL_law_222 ?_
  refine z_callV (w := wN E q nq sa ha un svd sg le hv sv jb jr lf jf rd vr G) (wr := wM E qm z pa sl msv sp pd od pm ty om st wr) (ci := 3) (qk := 0) (As := [.int (iI a1), .int (iI a2)]) (rest := []) hx hb hml hown htsL hK hA hl.1 hP hD hS (c_X3_read l E q nq sa ha un svd sg le hv sv jb jr lf jf rd vr G a1 a2 (by first | assumption | omega) (by first | assumption | omega) (by first | assumption | omega) (by first | assumption | omega) (by first | assumption | omega) (by first | assumption | omega)) gL_law_X3_read rfl ndX3_read ⟨Nat.le_of_ble_eq_true rfl, Nat.le_of_ble_eq_true rfl⟩ rfl rfl rfl rfl rfl (Nat.le_of_ble_eq_true rfl) dL_law_223 ⟨Nat.le_of_ble_eq_true rfl, Nat.le_of_ble_eq_true rfl⟩ (fun x u H locs hpost hP hD hS => ?_)
  subst x
  refine lv_aload_n hx hb dL_law_226 rfl (lv_at hl 1 rfl) ?_
  refine lv_aload_n hx hb dL_law_227 rfl (lv_at hl 3 rfl) ?_
  refine lv_iload_n hx hb dL_law_228 rfl (lv_at hl 0 rfl) ?_
  refine lv_iconst (v := iI 1) hx hb dL_law_229 (by decide) ?_
  refine z_iadd hx hb dL_law_230 ?_
  refine z_sld hx hb hX hbl hbA hS e1 (by omega) (by omega) (by omega) dL_law_231 ?_
  refine lv_aload_n hx hb dL_law_232 rfl (lv_at hl 3 rfl) ?_
  refine lv_iload_n hx hb dL_law_233 rfl (lv_at hl 0 rfl) ?_
  refine lv_iconst (v := iI 2) hx hb dL_law_234 (by decide) ?_
  refine z_iadd hx hb dL_law_235 ?_
  refine z_sld hx hb hX hbl hbA hS e2 (by omega) (by omega) (by omega) dL_law_236 ?_
  refine z_callL (w := wM E qm z pa sl msv sp pd od pm ty om st wr) (ci := 4) (qk := 0) (As := [.int (iI a1), .int (iI a2)]) (rest := [.int (iI _)]) hx hb hml hown htsL hK hA hl.1 hP hD hS (c_X4_read l E qm z pa sl msv sp pd od pm ty om st wr a1 a2 (by first | assumption | omega) (by first | assumption | omega) (by first | assumption | omega) (by first | assumption | omega)) gL_law_X4_read rfl ndX4_read ⟨Nat.le_of_ble_eq_true rfl, Nat.le_of_ble_eq_true rfl⟩ rfl rfl rfl rfl rfl (Nat.le_of_ble_eq_true rfl) dL_law_237 ⟨Nat.le_of_ble_eq_true rfl, Nat.le_of_ble_eq_true rfl⟩ (fun x u H locs hpost hP hD hS => ?_)
  subst x
  have hans := L_read (gr := a1) (n := a2) hR (by omega)
  refine lv_icmp_eq (tgt := 702) hx hb dL_law_240 (by decide) (fun _ => ?_) (fun q1 => absurd (by rw [hans.1]) q1)
  exact kk _ _ _ _ _ _ _ _ _ _ _ _ _ _ _ _ _ _ _ _ _ _ _ _ _ _ H locs hans.2 hP hD hS
set_option maxRecDepth 100000 in
set_option maxHeartbeats 400000 in
theorem law_delete (C0 : lw_At p s m meth c b L xs) (hK : va_K E.1 vwCl (zT E) s) (hB : B ≤ 90000000) {i : Int} (hi : 0 ≤ i ∧ i + 4 ≤ L) (hL : L ≤ 2048) (hl : lv_has ls 4 [(3, .int (iI i)), (2, .ref (qm 0)), (1, .ref (q 0)), (0, .ref b)]) (kk : lawK p l e s m below meth c b E q nq qm sa Q ls (B + 100) 702) : lawK p l e s m below meth c b E q nq qm sa Q ls B 245 := by
  intro ha un svd sg le hv sv jb jr lf jf rd vr G z pa sl msv sp pd od pm ty om st wr H locs hR hP hD hS
  obtain ⟨hx, hb, hr, hml, hown, hts, hX, hbl, hlocks, hgv⟩ := id C0
  have hb : c.code = cL_law := hb
  have hown : s.vm.findClass RL = some m.cls := hown
  have htsL : ∀ v ∈ wsL_law, v.before #[.ref b] s = true := fun v h => hts v (wsL_law_in v h)
  have hA : ∀ a : Nat, s.heap.size ≤ a → (fun a : Nat => s.heap.size ≤ a) a := fun _ h => h
  have hbA : ¬ (fun a : Nat => s.heap.size ≤ a) b := Nat.not_le.mpr hbl
  obtain ⟨f1, f2, f3, f4, f5, f6, f7, f8, f9, f10, f11, f12, f13, f14, f15, f16, f17, f18⟩ := Rel_facts hR hB
  have f19 : AG z := f16.ag
  have f20 : CZ z := f16.1
  obtain ⟨a1, e1⟩ : ∃ v : Int, (xs (i + 1).toNat).toInt = v := ⟨_, rfl⟩
  have r1 : rg a1 := by rw [← e1]; exact iI_rg _
  obtain ⟨a2, e2⟩ : ∃ v : Int, (xs (i + 2).toNat).toInt = v := ⟨_, rfl⟩
  have r2 : rg a2 := by rw [← e2]; exact iI_rg _
  refine lv_aload_n hx hb dL_law_245 rfl (lv_at hl 2 rfl) ?_
  refine lv_aload_n hx hb dL_law_246 rfl (lv_at hl 3 rfl) ?_
  refine lv_iload_n hx hb dL_law_247 rfl (lv_at hl 0 rfl) ?_
  refine lv_iconst (v := iI 1) hx hb dL_law_248 (by decide) ?_
  refine z_iadd hx hb dL_law_249 ?_
  refine z_sld hx hb hX hbl hbA hS e1 (by omega) (by omega) (by omega) dL_law_250 ?_
  refine lv_aload_n hx hb dL_law_251 rfl (lv_at hl 3 rfl) ?_
  refine lv_iload_n hx hb dL_law_252 rfl (lv_at hl 0 rfl) ?_
  refine lv_iconst (v := iI 2) hx hb dL_law_253 (by decide) ?_
  refine z_iadd hx hb dL_law_254 ?_
  refine z_sld hx hb hX hbl hbA hS e2 (by omega) (by omega) (by omega) dL_law_255 ?_
  refine z_callV (w := wN E q nq sa ha un svd sg le hv sv jb jr lf jf rd vr G) (wr := wM E qm z pa sl msv sp pd od pm ty om st wr) (ci := 3) (qk := 0) (As := [.int (iI a1), .int (iI a2)]) (rest := []) hx hb hml hown htsL hK hA hl.1 hP hD hS (c_X3_delete l E q nq sa ha un svd sg le hv sv jb jr lf jf rd vr G a1 a2 (by first | assumption | omega) (by first | assumption | omega) (by first | assumption | omega) (by first | assumption | omega) (by first | assumption | omega) (by first | assumption | omega)) gL_law_X3_delete rfl ndX3_delete ⟨Nat.le_of_ble_eq_true rfl, Nat.le_of_ble_eq_true rfl⟩ rfl rfl rfl rfl rfl (Nat.le_of_ble_eq_true rfl) dL_law_256 ⟨Nat.le_of_ble_eq_true rfl, Nat.le_of_ble_eq_true rfl⟩ (fun x u H locs hpost hP hD hS => ?_)
  subst x
  refine lv_aload_n hx hb dL_law_259 rfl (lv_at hl 1 rfl) ?_
  refine lv_aload_n hx hb dL_law_260 rfl (lv_at hl 3 rfl) ?_
  refine lv_iload_n hx hb dL_law_261 rfl (lv_at hl 0 rfl) ?_
  refine lv_iconst (v := iI 1) hx hb dL_law_262 (by decide) ?_
  refine z_iadd hx hb dL_law_263 ?_
  refine z_sld hx hb hX hbl hbA hS e1 (by omega) (by omega) (by omega) dL_law_264 ?_
  refine lv_aload_n hx hb dL_law_265 rfl (lv_at hl 3 rfl) ?_
  refine lv_iload_n hx hb dL_law_266 rfl (lv_at hl 0 rfl) ?_
  refine lv_iconst (v := iI 2) hx hb dL_law_267 (by decide) ?_
  refine z_iadd hx hb dL_law_268 ?_
  refine z_sld hx hb hX hbl hbA hS e2 (by omega) (by omega) (by omega) dL_law_269 ?_
  refine z_callL (w := wM E qm z pa sl msv sp pd od pm ty om st wr) (ci := 4) (qk := 0) (As := [.int (iI a1), .int (iI a2)]) (rest := [.int (iI _)]) hx hb hml hown htsL hK hA hl.1 hP hD hS (c_X4_delete l E qm z pa sl msv sp pd od pm ty om st wr a1 a2 (by first | assumption | omega) (by first | assumption | omega) (by first | assumption | omega) (by first | assumption | omega)) gL_law_X4_delete rfl ndX4_delete ⟨Nat.le_of_ble_eq_true rfl, Nat.le_of_ble_eq_true rfl⟩ rfl rfl rfl rfl rfl (Nat.le_of_ble_eq_true rfl) dL_law_270 ⟨Nat.le_of_ble_eq_true rfl, Nat.le_of_ble_eq_true rfl⟩ (fun x u H locs hpost hP hD hS => ?_)
  subst x
  have hans := L_delete (gr := a1) (n := a2) hR (by omega)
  refine lv_icmp_eq (tgt := 702) hx hb dL_law_273 (by decide) (fun _ => ?_) (fun q1 => absurd (by rw [hans.1]) q1)
  exact kk _ _ _ _ _ _ _ _ _ _ _ _ _ _ _ _ _ _ _ _ _ _ _ _ _ _ H locs hans.2 hP hD hS
set_option maxRecDepth 100000 in
set_option maxHeartbeats 400000 in
theorem law_begin (C0 : lw_At p s m meth c b L xs) (hK : va_K E.1 vwCl (zT E) s) (hB : B ≤ 90000000) {i : Int} (hi : 0 ≤ i ∧ i + 4 ≤ L) (hL : L ≤ 2048) (hl : lv_has ls 4 [(3, .int (iI i)), (2, .ref (qm 0)), (1, .ref (q 0)), (0, .ref b)]) (kk : lawK p l e s m below meth c b E q nq qm sa Q ls (B + 100) 702) : lawK p l e s m below meth c b E q nq qm sa Q ls B 278 := by
  intro ha un svd sg le hv sv jb jr lf jf rd vr G z pa sl msv sp pd od pm ty om st wr H locs hR hP hD hS
  obtain ⟨hx, hb, hr, hml, hown, hts, hX, hbl, hlocks, hgv⟩ := id C0
  have hb : c.code = cL_law := hb
  have hown : s.vm.findClass RL = some m.cls := hown
  have htsL : ∀ v ∈ wsL_law, v.before #[.ref b] s = true := fun v h => hts v (wsL_law_in v h)
  have hA : ∀ a : Nat, s.heap.size ≤ a → (fun a : Nat => s.heap.size ≤ a) a := fun _ h => h
  have hbA : ¬ (fun a : Nat => s.heap.size ≤ a) b := Nat.not_le.mpr hbl
  obtain ⟨f1, f2, f3, f4, f5, f6, f7, f8, f9, f10, f11, f12, f13, f14, f15, f16, f17, f18⟩ := Rel_facts hR hB
  have f19 : AG z := f16.ag
  have f20 : CZ z := f16.1
  refine lv_aload_n hx hb dL_law_278 rfl (lv_at hl 2 rfl) ?_
  refine z_callV (w := wN E q nq sa ha un svd sg le hv sv jb jr lf jf rd vr G) (wr := wM E qm z pa sl msv sp pd od pm ty om st wr) (ci := 3) (qk := 0) (As := []) (rest := []) hx hb hml hown htsL hK hA hl.1 hP hD hS (c_X3_begin l E q nq sa ha un svd sg le hv sv jb jr lf jf rd vr G  (by first | assumption | omega) (by first | assumption | omega) (by first | assumption | omega) (by first | assumption | omega) (by first | assumption | omega)) gL_law_X3_begin rfl ndX3_begin ⟨Nat.le_of_ble_eq_true rfl, Nat.le_of_ble_eq_true rfl⟩ rfl rfl rfl rfl rfl (Nat.le_of_ble_eq_true rfl) dL_law_279 ⟨Nat.le_of_ble_eq_true rfl, Nat.le_of_ble_eq_true rfl⟩ (fun x u H locs hpost hP hD hS => ?_)
  subst x
  refine lv_aload_n hx hb dL_law_282 rfl (lv_at hl 1 rfl) ?_
  refine z_callL (w := wM E qm z pa sl msv sp pd od pm ty om st wr) (ci := 4) (qk := 0) (As := []) (rest := [.int (iI _)]) hx hb hml hown htsL hK hA hl.1 hP hD hS (c_X4_begin l E qm z pa sl msv sp pd od pm ty om st wr  (by first | assumption | omega) (by first | assumption | omega)) gL_law_X4_begin rfl ndX4_begin ⟨Nat.le_of_ble_eq_true rfl, Nat.le_of_ble_eq_true rfl⟩ rfl rfl rfl rfl rfl (Nat.le_of_ble_eq_true rfl) dL_law_283 ⟨Nat.le_of_ble_eq_true rfl, Nat.le_of_ble_eq_true rfl⟩ (fun x u H locs hpost hP hD hS => ?_)
  subst x
  have hans := L_begin  hR (by omega)
  refine lv_icmp_eq (tgt := 702) hx hb dL_law_286 (by decide) (fun _ => ?_) (fun q1 => absurd (by rw [hans.1]) q1)
  exact kk _ _ _ _ _ _ _ _ _ _ _ _ _ _ _ _ _ _ _ _ _ _ _ _ _ _ H locs hans.2 hP hD hS
set_option maxRecDepth 100000 in
set_option maxHeartbeats 400000 in
theorem law_end (C0 : lw_At p s m meth c b L xs) (hK : va_K E.1 vwCl (zT E) s) (hB : B ≤ 90000000) {i : Int} (hi : 0 ≤ i ∧ i + 4 ≤ L) (hL : L ≤ 2048) (hl : lv_has ls 4 [(3, .int (iI i)), (2, .ref (qm 0)), (1, .ref (q 0)), (0, .ref b)]) (kk : lawK p l e s m below meth c b E q nq qm sa Q ls (B + 100) 702) : lawK p l e s m below meth c b E q nq qm sa Q ls B 291 := by
  intro ha un svd sg le hv sv jb jr lf jf rd vr G z pa sl msv sp pd od pm ty om st wr H locs hR hP hD hS
  obtain ⟨hx, hb, hr, hml, hown, hts, hX, hbl, hlocks, hgv⟩ := id C0
  have hb : c.code = cL_law := hb
  have hown : s.vm.findClass RL = some m.cls := hown
  have htsL : ∀ v ∈ wsL_law, v.before #[.ref b] s = true := fun v h => hts v (wsL_law_in v h)
  have hA : ∀ a : Nat, s.heap.size ≤ a → (fun a : Nat => s.heap.size ≤ a) a := fun _ h => h
  have hbA : ¬ (fun a : Nat => s.heap.size ≤ a) b := Nat.not_le.mpr hbl
  obtain ⟨f1, f2, f3, f4, f5, f6, f7, f8, f9, f10, f11, f12, f13, f14, f15, f16, f17, f18⟩ := Rel_facts hR hB
  have f19 : AG z := f16.ag
  have f20 : CZ z := f16.1
  obtain ⟨a1, e1⟩ : ∃ v : Int, (xs (i + 1).toNat).toInt = v := ⟨_, rfl⟩
  have r1 : rg a1 := by rw [← e1]; exact iI_rg _
  refine lv_aload_n hx hb dL_law_291 rfl (lv_at hl 2 rfl) ?_
  refine lv_aload_n hx hb dL_law_292 rfl (lv_at hl 3 rfl) ?_
  refine lv_iload_n hx hb dL_law_293 rfl (lv_at hl 0 rfl) ?_
  refine lv_iconst (v := iI 1) hx hb dL_law_294 (by decide) ?_
  refine z_iadd hx hb dL_law_295 ?_
  refine z_sld hx hb hX hbl hbA hS e1 (by omega) (by omega) (by omega) dL_law_296 ?_
  refine z_callV (w := wN E q nq sa ha un svd sg le hv sv jb jr lf jf rd vr G) (wr := wM E qm z pa sl msv sp pd od pm ty om st wr) (ci := 3) (qk := 0) (As := [.int (iI a1)]) (rest := []) hx hb hml hown htsL hK hA hl.1 hP hD hS (c_X3_end l E q nq sa ha un svd sg le hv sv jb jr lf jf rd vr G a1 (by first | assumption | omega) (by first | assumption | omega) (by first | assumption | omega) (by first | assumption | omega) (by first | assumption | omega)) gL_law_X3_end rfl ndX3_end ⟨Nat.le_of_ble_eq_true rfl, Nat.le_of_ble_eq_true rfl⟩ rfl rfl rfl rfl rfl (Nat.le_of_ble_eq_true rfl) dL_law_297 ⟨Nat.le_of_ble_eq_true rfl, Nat.le_of_ble_eq_true rfl⟩ (fun x u H locs hpost hP hD hS => ?_)
  subst x
  refine lv_aload_n hx hb dL_law_300 rfl (lv_at hl 1 rfl) ?_
  refine lv_aload_n hx hb dL_law_301 rfl (lv_at hl 3 rfl) ?_
  refine lv_iload_n hx hb dL_law_302 rfl (lv_at hl 0 rfl) ?_
  refine lv_iconst (v := iI 1) hx hb dL_law_303 (by decide) ?_
  refine z_iadd hx hb dL_law_304 ?_
  refine z_sld hx hb hX hbl hbA hS e1 (by omega) (by omega) (by omega) dL_law_305 ?_
  refine z_callL (w := wM E qm z pa sl msv sp pd od pm ty om st wr) (ci := 4) (qk := 0) (As := [.int (iI a1)]) (rest := [.int (iI _)]) hx hb hml hown htsL hK hA hl.1 hP hD hS (c_X4_end l E qm z pa sl msv sp pd od pm ty om st wr a1 (by first | assumption | omega) (by first | assumption | omega) (by first | assumption | omega)) gL_law_X4_end rfl ndX4_end ⟨Nat.le_of_ble_eq_true rfl, Nat.le_of_ble_eq_true rfl⟩ rfl rfl rfl rfl rfl (Nat.le_of_ble_eq_true rfl) dL_law_306 ⟨Nat.le_of_ble_eq_true rfl, Nat.le_of_ble_eq_true rfl⟩ (fun x u H locs hpost hP hD hS => ?_)
  subst x
  have hans := L_end (w := a1) hR (by omega)
  refine lv_icmp_eq (tgt := 702) hx hb dL_law_309 (by decide) (fun _ => ?_) (fun q1 => absurd (by rw [hans.1]) q1)
  exact kk _ _ _ _ _ _ _ _ _ _ _ _ _ _ _ _ _ _ _ _ _ _ _ _ _ _ H locs hans.2 hP hD hS
set_option maxRecDepth 100000 in
set_option maxHeartbeats 400000 in
theorem law_again (C0 : lw_At p s m meth c b L xs) (hK : va_K E.1 vwCl (zT E) s) (hB : B ≤ 90000000) {i : Int} (hi : 0 ≤ i ∧ i + 4 ≤ L) (hL : L ≤ 2048) (hl : lv_has ls 4 [(3, .int (iI i)), (2, .ref (qm 0)), (1, .ref (q 0)), (0, .ref b)]) (kk : lawK p l e s m below meth c b E q nq qm sa Q ls (B + 100) 702) : lawK p l e s m below meth c b E q nq qm sa Q ls B 314 := by
  intro ha un svd sg le hv sv jb jr lf jf rd vr G z pa sl msv sp pd od pm ty om st wr H locs hR hP hD hS
  obtain ⟨hx, hb, hr, hml, hown, hts, hX, hbl, hlocks, hgv⟩ := id C0
  have hb : c.code = cL_law := hb
  have hown : s.vm.findClass RL = some m.cls := hown
  have htsL : ∀ v ∈ wsL_law, v.before #[.ref b] s = true := fun v h => hts v (wsL_law_in v h)
  have hA : ∀ a : Nat, s.heap.size ≤ a → (fun a : Nat => s.heap.size ≤ a) a := fun _ h => h
  have hbA : ¬ (fun a : Nat => s.heap.size ≤ a) b := Nat.not_le.mpr hbl
  obtain ⟨f1, f2, f3, f4, f5, f6, f7, f8, f9, f10, f11, f12, f13, f14, f15, f16, f17, f18⟩ := Rel_facts hR hB
  have f19 : AG z := f16.ag
  have f20 : CZ z := f16.1
  refine lv_aload_n hx hb dL_law_314 rfl (lv_at hl 2 rfl) ?_
  refine z_callV (w := wN E q nq sa ha un svd sg le hv sv jb jr lf jf rd vr G) (wr := wM E qm z pa sl msv sp pd od pm ty om st wr) (ci := 3) (qk := 0) (As := []) (rest := []) hx hb hml hown htsL hK hA hl.1 hP hD hS (c_X3_again l E q nq sa ha un svd sg le hv sv jb jr lf jf rd vr G  (by first | assumption | omega) (by first | assumption | omega) (by first | assumption | omega) (by first | assumption | omega) (by first | assumption | omega)) gL_law_X3_again rfl ndX3_again ⟨Nat.le_of_ble_eq_true rfl, Nat.le_of_ble_eq_true rfl⟩ rfl rfl rfl rfl rfl (Nat.le_of_ble_eq_true rfl) dL_law_315 ⟨Nat.le_of_ble_eq_true rfl, Nat.le_of_ble_eq_true rfl⟩ (fun x u H locs hpost hP hD hS => ?_)
  subst x
  refine lv_aload_n hx hb dL_law_318 rfl (lv_at hl 1 rfl) ?_
  refine z_callL (w := wM E qm z pa sl msv sp pd od pm ty om st wr) (ci := 4) (qk := 0) (As := []) (rest := [.int (iI _)]) hx hb hml hown htsL hK hA hl.1 hP hD hS (c_X4_again l E qm z pa sl msv sp pd od pm ty om st wr  (by first | assumption | omega) (by first | assumption | omega)) gL_law_X4_again rfl ndX4_again ⟨Nat.le_of_ble_eq_true rfl, Nat.le_of_ble_eq_true rfl⟩ rfl rfl rfl rfl rfl (Nat.le_of_ble_eq_true rfl) dL_law_319 ⟨Nat.le_of_ble_eq_true rfl, Nat.le_of_ble_eq_true rfl⟩ (fun x u H locs hpost hP hD hS => ?_)
  subst x
  have hans := L_again  hR (by omega)
  refine lv_icmp_eq (tgt := 702) hx hb dL_law_322 (by decide) (fun _ => ?_) (fun q1 => absurd (by rw [hans.1]) q1)
  exact kk _ _ _ _ _ _ _ _ _ _ _ _ _ _ _ _ _ _ _ _ _ _ _ _ _ _ H locs hans.2 hP hD hS
set_option maxRecDepth 100000 in
set_option maxHeartbeats 400000 in
theorem law_ofGroup (C0 : lw_At p s m meth c b L xs) (hK : va_K E.1 vwCl (zT E) s) (hB : B ≤ 90000000) {i : Int} (hi : 0 ≤ i ∧ i + 4 ≤ L) (hL : L ≤ 2048) (hl : lv_has ls 4 [(3, .int (iI i)), (2, .ref (qm 0)), (1, .ref (q 0)), (0, .ref b)]) (kk : lawK p l e s m below meth c b E q nq qm sa Q ls (B + 100) 702) : lawK p l e s m below meth c b E q nq qm sa Q ls B 327 := by
  intro ha un svd sg le hv sv jb jr lf jf rd vr G z pa sl msv sp pd od pm ty om st wr H locs hR hP hD hS
  obtain ⟨hx, hb, hr, hml, hown, hts, hX, hbl, hlocks, hgv⟩ := id C0
  have hb : c.code = cL_law := hb
  have hown : s.vm.findClass RL = some m.cls := hown
  have htsL : ∀ v ∈ wsL_law, v.before #[.ref b] s = true := fun v h => hts v (wsL_law_in v h)
  have hA : ∀ a : Nat, s.heap.size ≤ a → (fun a : Nat => s.heap.size ≤ a) a := fun _ h => h
  have hbA : ¬ (fun a : Nat => s.heap.size ≤ a) b := Nat.not_le.mpr hbl
  obtain ⟨f1, f2, f3, f4, f5, f6, f7, f8, f9, f10, f11, f12, f13, f14, f15, f16, f17, f18⟩ := Rel_facts hR hB
  have f19 : AG z := f16.ag
  have f20 : CZ z := f16.1
  obtain ⟨a1, e1⟩ : ∃ v : Int, (xs (i + 1).toNat).toInt = v := ⟨_, rfl⟩
  have r1 : rg a1 := by rw [← e1]; exact iI_rg _
  obtain ⟨a2, e2⟩ : ∃ v : Int, (xs (i + 2).toNat).toInt = v := ⟨_, rfl⟩
  have r2 : rg a2 := by rw [← e2]; exact iI_rg _
  refine lv_aload_n hx hb dL_law_327 rfl (lv_at hl 2 rfl) ?_
  refine lv_aload_n hx hb dL_law_328 rfl (lv_at hl 3 rfl) ?_
  refine lv_iload_n hx hb dL_law_329 rfl (lv_at hl 0 rfl) ?_
  refine lv_iconst (v := iI 1) hx hb dL_law_330 (by decide) ?_
  refine z_iadd hx hb dL_law_331 ?_
  refine z_sld hx hb hX hbl hbA hS e1 (by omega) (by omega) (by omega) dL_law_332 ?_
  refine lv_aload_n hx hb dL_law_333 rfl (lv_at hl 3 rfl) ?_
  refine lv_iload_n hx hb dL_law_334 rfl (lv_at hl 0 rfl) ?_
  refine lv_iconst (v := iI 2) hx hb dL_law_335 (by decide) ?_
  refine z_iadd hx hb dL_law_336 ?_
  refine z_sld hx hb hX hbl hbA hS e2 (by omega) (by omega) (by omega) dL_law_337 ?_
  refine z_callV (w := wN E q nq sa ha un svd sg le hv sv jb jr lf jf rd vr G) (wr := wM E qm z pa sl msv sp pd od pm ty om st wr) (ci := 3) (qk := 0) (As := [.int (iI a1), .int (iI a2)]) (rest := []) hx hb hml hown htsL hK hA hl.1 hP hD hS (c_X3_ofGroup l E q nq sa ha un svd sg le hv sv jb jr lf jf rd vr G a1 a2 (by first | assumption | omega) (by first | assumption | omega) (by first | assumption | omega)) gL_law_X3_ofGroup rfl ndX3_ofGroup ⟨Nat.le_of_ble_eq_true rfl, Nat.le_of_ble_eq_true rfl⟩ rfl rfl rfl rfl rfl (Nat.le_of_ble_eq_true rfl) dL_law_338 ⟨Nat.le_of_ble_eq_true rfl, Nat.le_of_ble_eq_true rfl⟩ (fun x u H locs hpost hP hD hS => ?_)
  subst x
  refine lv_aload_n hx hb dL_law_341 rfl (lv_at hl 1 rfl) ?_
  refine lv_aload_n hx hb dL_law_342 rfl (lv_at hl 3 rfl) ?_
  refine lv_iload_n hx hb dL_law_343 rfl (lv_at hl 0 rfl) ?_
  refine lv_iconst (v := iI 1) hx hb dL_law_344 (by decide) ?_
  refine z_iadd hx hb dL_law_345 ?_
  refine z_sld hx hb hX hbl hbA hS e1 (by omega) (by omega) (by omega) dL_law_346 ?_
  refine lv_aload_n hx hb dL_law_347 rfl (lv_at hl 3 rfl) ?_
  refine lv_iload_n hx hb dL_law_348 rfl (lv_at hl 0 rfl) ?_
  refine lv_iconst (v := iI 2) hx hb dL_law_349 (by decide) ?_
  refine z_iadd hx hb dL_law_350 ?_
  refine z_sld hx hb hX hbl hbA hS e2 (by omega) (by omega) (by omega) dL_law_351 ?_
  refine z_callL (w := wM E qm z pa sl msv sp pd od pm ty om st wr) (ci := 4) (qk := 0) (As := [.int (iI a1), .int (iI a2)]) (rest := [.int (iI _)]) hx hb hml hown htsL hK hA hl.1 hP hD hS (c_X4_ofGroup l E qm z pa sl msv sp pd od pm ty om st wr a1 a2 (by first | assumption | omega) (by first | assumption | omega) (by first | assumption | omega)) gL_law_X4_ofGroup rfl ndX4_ofGroup ⟨Nat.le_of_ble_eq_true rfl, Nat.le_of_ble_eq_true rfl⟩ rfl rfl rfl rfl rfl (Nat.le_of_ble_eq_true rfl) dL_law_352 ⟨Nat.le_of_ble_eq_true rfl, Nat.le_of_ble_eq_true rfl⟩ (fun x u H locs hpost hP hD hS => ?_)
  subst x
  have hans := L_ofGroup (gr := a1) (k := a2) hR (by omega)
  refine lv_icmp_eq (tgt := 702) hx hb dL_law_355 (by decide) (fun _ => ?_) (fun q1 => absurd (by rw [hans.1]) q1)
  exact kk _ _ _ _ _ _ _ _ _ _ _ _ _ _ _ _ _ _ _ _ _ _ _ _ _ _ H locs hans.2 hP hD hS
set_option maxRecDepth 100000 in
set_option maxHeartbeats 400000 in
theorem law_generation (C0 : lw_At p s m meth c b L xs) (hK : va_K E.1 vwCl (zT E) s) (hB : B ≤ 90000000) {i : Int} (hi : 0 ≤ i ∧ i + 4 ≤ L) (hL : L ≤ 2048) (hl : lv_has ls 4 [(3, .int (iI i)), (2, .ref (qm 0)), (1, .ref (q 0)), (0, .ref b)]) (kk : lawK p l e s m below meth c b E q nq qm sa Q ls (B + 100) 702) : lawK p l e s m below meth c b E q nq qm sa Q ls B 360 := by
  intro ha un svd sg le hv sv jb jr lf jf rd vr G z pa sl msv sp pd od pm ty om st wr H locs hR hP hD hS
  obtain ⟨hx, hb, hr, hml, hown, hts, hX, hbl, hlocks, hgv⟩ := id C0
  have hb : c.code = cL_law := hb
  have hown : s.vm.findClass RL = some m.cls := hown
  have htsL : ∀ v ∈ wsL_law, v.before #[.ref b] s = true := fun v h => hts v (wsL_law_in v h)
  have hA : ∀ a : Nat, s.heap.size ≤ a → (fun a : Nat => s.heap.size ≤ a) a := fun _ h => h
  have hbA : ¬ (fun a : Nat => s.heap.size ≤ a) b := Nat.not_le.mpr hbl
  obtain ⟨f1, f2, f3, f4, f5, f6, f7, f8, f9, f10, f11, f12, f13, f14, f15, f16, f17, f18⟩ := Rel_facts hR hB
  have f19 : AG z := f16.ag
  have f20 : CZ z := f16.1
  obtain ⟨a1, e1⟩ : ∃ v : Int, (xs (i + 1).toNat).toInt = v := ⟨_, rfl⟩
  have r1 : rg a1 := by rw [← e1]; exact iI_rg _
  obtain ⟨a2, e2⟩ : ∃ v : Int, (xs (i + 2).toNat).toInt = v := ⟨_, rfl⟩
  have r2 : rg a2 := by rw [← e2]; exact iI_rg _
  obtain ⟨a3, e3⟩ : ∃ v : Int, (xs (i + 3).toNat).toInt = v := ⟨_, rfl⟩
  have r3 : rg a3 := by rw [← e3]; exact iI_rg _
  refine lv_aload_n hx hb dL_law_360 rfl (lv_at hl 2 rfl) ?_
  refine lv_aload_n hx hb dL_law_361 rfl (lv_at hl 3 rfl) ?_
  refine lv_iload_n hx hb dL_law_362 rfl (lv_at hl 0 rfl) ?_
  refine lv_iconst (v := iI 1) hx hb dL_law_363 (by decide) ?_
  refine z_iadd hx hb dL_law_364 ?_
  refine z_sld hx hb hX hbl hbA hS e1 (by omega) (by omega) (by omega) dL_law_365 ?_
  refine lv_aload_n hx hb dL_law_366 rfl (lv_at hl 3 rfl) ?_
  refine lv_iload_n hx hb dL_law_367 rfl (lv_at hl 0 rfl) ?_
  refine lv_iconst (v := iI 2) hx hb dL_law_368 (by decide) ?_
  refine z_iadd hx hb dL_law_369 ?_
  refine z_sld hx hb hX hbl hbA hS e2 (by omega) (by omega) (by omega) dL_law_370 ?_
  refine lv_aload_n hx hb dL_law_371 rfl (lv_at hl 3 rfl) ?_
  refine lv_iload_n hx hb dL_law_372 rfl (lv_at hl 0 rfl) ?_
  refine lv_iconst (v := iI 3) hx hb dL_law_373 (by decide) ?_
  refine z_iadd hx hb dL_law_374 ?_
  refine z_sld hx hb hX hbl hbA hS e3 (by omega) (by omega) (by omega) dL_law_375 ?_
  refine z_callV (w := wN E q nq sa ha un svd sg le hv sv jb jr lf jf rd vr G) (wr := wM E qm z pa sl msv sp pd od pm ty om st wr) (ci := 3) (qk := 0) (As := [.int (iI a1), .int (iI a2), .int (iI a3)]) (rest := []) hx hb hml hown htsL hK hA hl.1 hP hD hS (c_X3_generation l E q nq sa ha un svd sg le hv sv jb jr lf jf rd vr G a1 a2 a3 (by first | assumption | omega) (by first | assumption | omega) (by first | assumption | omega) (by first | assumption | omega) (by first | assumption | omega)) gL_law_X3_generation rfl ndX3_generation ⟨Nat.le_of_ble_eq_true rfl, Nat.le_of_ble_eq_true rfl⟩ rfl rfl rfl rfl rfl (Nat.le_of_ble_eq_true rfl) dL_law_376 ⟨Nat.le_of_ble_eq_true rfl, Nat.le_of_ble_eq_true rfl⟩ (fun x u H locs hpost hP hD hS => ?_)
  subst x
  refine lv_aload_n hx hb dL_law_379 rfl (lv_at hl 1 rfl) ?_
  refine lv_aload_n hx hb dL_law_380 rfl (lv_at hl 3 rfl) ?_
  refine lv_iload_n hx hb dL_law_381 rfl (lv_at hl 0 rfl) ?_
  refine lv_iconst (v := iI 1) hx hb dL_law_382 (by decide) ?_
  refine z_iadd hx hb dL_law_383 ?_
  refine z_sld hx hb hX hbl hbA hS e1 (by omega) (by omega) (by omega) dL_law_384 ?_
  refine lv_aload_n hx hb dL_law_385 rfl (lv_at hl 3 rfl) ?_
  refine lv_iload_n hx hb dL_law_386 rfl (lv_at hl 0 rfl) ?_
  refine lv_iconst (v := iI 2) hx hb dL_law_387 (by decide) ?_
  refine z_iadd hx hb dL_law_388 ?_
  refine z_sld hx hb hX hbl hbA hS e2 (by omega) (by omega) (by omega) dL_law_389 ?_
  refine lv_aload_n hx hb dL_law_390 rfl (lv_at hl 3 rfl) ?_
  refine lv_iload_n hx hb dL_law_391 rfl (lv_at hl 0 rfl) ?_
  refine lv_iconst (v := iI 3) hx hb dL_law_392 (by decide) ?_
  refine z_iadd hx hb dL_law_393 ?_
  refine z_sld hx hb hX hbl hbA hS e3 (by omega) (by omega) (by omega) dL_law_394 ?_
  refine z_callL (w := wM E qm z pa sl msv sp pd od pm ty om st wr) (ci := 4) (qk := 0) (As := [.int (iI a1), .int (iI a2), .int (iI a3)]) (rest := [.int (iI _)]) hx hb hml hown htsL hK hA hl.1 hP hD hS (c_X4_generation l E qm z pa sl msv sp pd od pm ty om st wr a1 a2 a3 (by first | assumption | omega) (by first | assumption | omega) (by first | assumption | omega) (by first | assumption | omega)) gL_law_X4_generation rfl ndX4_generation ⟨Nat.le_of_ble_eq_true rfl, Nat.le_of_ble_eq_true rfl⟩ rfl rfl rfl rfl rfl (Nat.le_of_ble_eq_true rfl) dL_law_395 ⟨Nat.le_of_ble_eq_true rfl, Nat.le_of_ble_eq_true rfl⟩ (fun x u H locs hpost hP hD hS => ?_)
  subst x
  have hans := L_generation (gr := a1) (pl := a2) (k := a3) hR (by omega)
  refine lv_icmp_eq (tgt := 702) hx hb dL_law_398 (by decide) (fun _ => ?_) (fun q1 => absurd (by rw [hans.1]) q1)
  exact kk _ _ _ _ _ _ _ _ _ _ _ _ _ _ _ _ _ _ _ _ _ _ _ _ _ _ H locs hans.2 hP hD hS
set_option maxRecDepth 100000 in
set_option maxHeartbeats 400000 in
theorem law_named (C0 : lw_At p s m meth c b L xs) (hK : va_K E.1 vwCl (zT E) s) (hB : B ≤ 90000000) {i : Int} (hi : 0 ≤ i ∧ i + 4 ≤ L) (hL : L ≤ 2048) (hl : lv_has ls 4 [(3, .int (iI i)), (2, .ref (qm 0)), (1, .ref (q 0)), (0, .ref b)]) (kk : lawK p l e s m below meth c b E q nq qm sa Q ls (B + 100) 702) : lawK p l e s m below meth c b E q nq qm sa Q ls B 403 := by
  intro ha un svd sg le hv sv jb jr lf jf rd vr G z pa sl msv sp pd od pm ty om st wr H locs hR hP hD hS
  obtain ⟨hx, hb, hr, hml, hown, hts, hX, hbl, hlocks, hgv⟩ := id C0
  have hb : c.code = cL_law := hb
  have hown : s.vm.findClass RL = some m.cls := hown
  have htsL : ∀ v ∈ wsL_law, v.before #[.ref b] s = true := fun v h => hts v (wsL_law_in v h)
  have hA : ∀ a : Nat, s.heap.size ≤ a → (fun a : Nat => s.heap.size ≤ a) a := fun _ h => h
  have hbA : ¬ (fun a : Nat => s.heap.size ≤ a) b := Nat.not_le.mpr hbl
  obtain ⟨f1, f2, f3, f4, f5, f6, f7, f8, f9, f10, f11, f12, f13, f14, f15, f16, f17, f18⟩ := Rel_facts hR hB
  have f19 : AG z := f16.ag
  have f20 : CZ z := f16.1
  obtain ⟨a1, e1⟩ : ∃ v : Int, (xs (i + 1).toNat).toInt = v := ⟨_, rfl⟩
  have r1 : rg a1 := by rw [← e1]; exact iI_rg _
  obtain ⟨a2, e2⟩ : ∃ v : Int, (xs (i + 2).toNat).toInt = v := ⟨_, rfl⟩
  have r2 : rg a2 := by rw [← e2]; exact iI_rg _
  refine lv_aload_n hx hb dL_law_403 rfl (lv_at hl 2 rfl) ?_
  refine lv_aload_n hx hb dL_law_404 rfl (lv_at hl 3 rfl) ?_
  refine lv_iload_n hx hb dL_law_405 rfl (lv_at hl 0 rfl) ?_
  refine lv_iconst (v := iI 1) hx hb dL_law_406 (by decide) ?_
  refine z_iadd hx hb dL_law_407 ?_
  refine z_sld hx hb hX hbl hbA hS e1 (by omega) (by omega) (by omega) dL_law_408 ?_
  refine lv_aload_n hx hb dL_law_409 rfl (lv_at hl 3 rfl) ?_
  refine lv_iload_n hx hb dL_law_410 rfl (lv_at hl 0 rfl) ?_
  refine lv_iconst (v := iI 2) hx hb dL_law_411 (by decide) ?_
  refine z_iadd hx hb dL_law_412 ?_
  refine z_sld hx hb hX hbl hbA hS e2 (by omega) (by omega) (by omega) dL_law_413 ?_
  refine z_callV (w := wN E q nq sa ha un svd sg le hv sv jb jr lf jf rd vr G) (wr := wM E qm z pa sl msv sp pd od pm ty om st wr) (ci := 3) (qk := 0) (As := [.int (iI a1), .int (iI a2)]) (rest := []) hx hb hml hown htsL hK hA hl.1 hP hD hS (c_X3_named l E q nq sa ha un svd sg le hv sv jb jr lf jf rd vr G a1 a2 (by first | assumption | omega) (by first | assumption | omega) (by first | assumption | omega) (by first | assumption | omega)) gL_law_X3_named rfl ndX3_named ⟨Nat.le_of_ble_eq_true rfl, Nat.le_of_ble_eq_true rfl⟩ rfl rfl rfl rfl rfl (Nat.le_of_ble_eq_true rfl) dL_law_414 ⟨Nat.le_of_ble_eq_true rfl, Nat.le_of_ble_eq_true rfl⟩ (fun x u H locs hpost hP hD hS => ?_)
  subst x
  refine lv_aload_n hx hb dL_law_417 rfl (lv_at hl 1 rfl) ?_
  refine lv_aload_n hx hb dL_law_418 rfl (lv_at hl 3 rfl) ?_
  refine lv_iload_n hx hb dL_law_419 rfl (lv_at hl 0 rfl) ?_
  refine lv_iconst (v := iI 1) hx hb dL_law_420 (by decide) ?_
  refine z_iadd hx hb dL_law_421 ?_
  refine z_sld hx hb hX hbl hbA hS e1 (by omega) (by omega) (by omega) dL_law_422 ?_
  refine lv_aload_n hx hb dL_law_423 rfl (lv_at hl 3 rfl) ?_
  refine lv_iload_n hx hb dL_law_424 rfl (lv_at hl 0 rfl) ?_
  refine lv_iconst (v := iI 2) hx hb dL_law_425 (by decide) ?_
  refine z_iadd hx hb dL_law_426 ?_
  refine z_sld hx hb hX hbl hbA hS e2 (by omega) (by omega) (by omega) dL_law_427 ?_
  refine z_callL (w := wM E qm z pa sl msv sp pd od pm ty om st wr) (ci := 4) (qk := 0) (As := [.int (iI a1), .int (iI a2)]) (rest := [.int (iI _)]) hx hb hml hown htsL hK hA hl.1 hP hD hS (c_X4_named l E qm z pa sl msv sp pd od pm ty om st wr a1 a2 (by first | assumption | omega) (by first | assumption | omega) (by first | assumption | omega)) gL_law_X4_named rfl ndX4_named ⟨Nat.le_of_ble_eq_true rfl, Nat.le_of_ble_eq_true rfl⟩ rfl rfl rfl rfl rfl (Nat.le_of_ble_eq_true rfl) dL_law_428 ⟨Nat.le_of_ble_eq_true rfl, Nat.le_of_ble_eq_true rfl⟩ (fun x u H locs hpost hP hD hS => ?_)
  subst x
  have hans := L_named (gr := a1) (n := a2) hR (by omega)
  refine lv_icmp_eq (tgt := 702) hx hb dL_law_431 (by decide) (fun _ => ?_) (fun q1 => absurd (by rw [hans.1]) q1)
  exact kk _ _ _ _ _ _ _ _ _ _ _ _ _ _ _ _ _ _ _ _ _ _ _ _ _ _ H locs hans.2 hP hD hS
set_option maxRecDepth 100000 in
set_option maxHeartbeats 400000 in
theorem law_count (C0 : lw_At p s m meth c b L xs) (hK : va_K E.1 vwCl (zT E) s) (hB : B ≤ 90000000) {i : Int} (hi : 0 ≤ i ∧ i + 4 ≤ L) (hL : L ≤ 2048) (hl : lv_has ls 4 [(3, .int (iI i)), (2, .ref (qm 0)), (1, .ref (q 0)), (0, .ref b)]) (kk : lawK p l e s m below meth c b E q nq qm sa Q ls (B + 100) 702) : lawK p l e s m below meth c b E q nq qm sa Q ls B 436 := by
  intro ha un svd sg le hv sv jb jr lf jf rd vr G z pa sl msv sp pd od pm ty om st wr H locs hR hP hD hS
  obtain ⟨hx, hb, hr, hml, hown, hts, hX, hbl, hlocks, hgv⟩ := id C0
  have hb : c.code = cL_law := hb
  have hown : s.vm.findClass RL = some m.cls := hown
  have htsL : ∀ v ∈ wsL_law, v.before #[.ref b] s = true := fun v h => hts v (wsL_law_in v h)
  have hA : ∀ a : Nat, s.heap.size ≤ a → (fun a : Nat => s.heap.size ≤ a) a := fun _ h => h
  have hbA : ¬ (fun a : Nat => s.heap.size ≤ a) b := Nat.not_le.mpr hbl
  obtain ⟨f1, f2, f3, f4, f5, f6, f7, f8, f9, f10, f11, f12, f13, f14, f15, f16, f17, f18⟩ := Rel_facts hR hB
  have f19 : AG z := f16.ag
  have f20 : CZ z := f16.1
  obtain ⟨a1, e1⟩ : ∃ v : Int, (xs (i + 1).toNat).toInt = v := ⟨_, rfl⟩
  have r1 : rg a1 := by rw [← e1]; exact iI_rg _
  refine lv_aload_n hx hb dL_law_436 rfl (lv_at hl 2 rfl) ?_
  refine lv_aload_n hx hb dL_law_437 rfl (lv_at hl 3 rfl) ?_
  refine lv_iload_n hx hb dL_law_438 rfl (lv_at hl 0 rfl) ?_
  refine lv_iconst (v := iI 1) hx hb dL_law_439 (by decide) ?_
  refine z_iadd hx hb dL_law_440 ?_
  refine z_sld hx hb hX hbl hbA hS e1 (by omega) (by omega) (by omega) dL_law_441 ?_
  refine z_callV (w := wN E q nq sa ha un svd sg le hv sv jb jr lf jf rd vr G) (wr := wM E qm z pa sl msv sp pd od pm ty om st wr) (ci := 3) (qk := 0) (As := [.int (iI a1)]) (rest := []) hx hb hml hown htsL hK hA hl.1 hP hD hS (c_X3_count l E q nq sa ha un svd sg le hv sv jb jr lf jf rd vr G a1 (by first | assumption | omega) (by first | assumption | omega) (by first | assumption | omega)) gL_law_X3_count rfl ndX3_count ⟨Nat.le_of_ble_eq_true rfl, Nat.le_of_ble_eq_true rfl⟩ rfl rfl rfl rfl rfl (Nat.le_of_ble_eq_true rfl) dL_law_442 ⟨Nat.le_of_ble_eq_true rfl, Nat.le_of_ble_eq_true rfl⟩ (fun x u H locs hpost hP hD hS => ?_)
  subst x
  refine lv_aload_n hx hb dL_law_445 rfl (lv_at hl 1 rfl) ?_
  refine lv_aload_n hx hb dL_law_446 rfl (lv_at hl 3 rfl) ?_
  refine lv_iload_n hx hb dL_law_447 rfl (lv_at hl 0 rfl) ?_
  refine lv_iconst (v := iI 1) hx hb dL_law_448 (by decide) ?_
  refine z_iadd hx hb dL_law_449 ?_
  refine z_sld hx hb hX hbl hbA hS e1 (by omega) (by omega) (by omega) dL_law_450 ?_
  refine z_callL (w := wM E qm z pa sl msv sp pd od pm ty om st wr) (ci := 4) (qk := 0) (As := [.int (iI a1)]) (rest := [.int (iI _)]) hx hb hml hown htsL hK hA hl.1 hP hD hS (c_X4_count l E qm z pa sl msv sp pd od pm ty om st wr a1 (by first | assumption | omega) (by first | assumption | omega)) gL_law_X4_count rfl ndX4_count ⟨Nat.le_of_ble_eq_true rfl, Nat.le_of_ble_eq_true rfl⟩ rfl rfl rfl rfl rfl (Nat.le_of_ble_eq_true rfl) dL_law_451 ⟨Nat.le_of_ble_eq_true rfl, Nat.le_of_ble_eq_true rfl⟩ (fun x u H locs hpost hP hD hS => ?_)
  subst x
  have hans := L_count (k := a1) hR (by omega)
  refine lv_icmp_eq (tgt := 702) hx hb dL_law_454 (by decide) (fun _ => ?_) (fun q1 => absurd (by rw [hans.1]) q1)
  exact kk _ _ _ _ _ _ _ _ _ _ _ _ _ _ _ _ _ _ _ _ _ _ _ _ _ _ H locs hans.2 hP hD hS
set_option maxRecDepth 100000 in
set_option maxHeartbeats 400000 in
theorem law_groups (C0 : lw_At p s m meth c b L xs) (hK : va_K E.1 vwCl (zT E) s) (hB : B ≤ 90000000) {i : Int} (hi : 0 ≤ i ∧ i + 4 ≤ L) (hL : L ≤ 2048) (hl : lv_has ls 4 [(3, .int (iI i)), (2, .ref (qm 0)), (1, .ref (q 0)), (0, .ref b)]) (kk : lawK p l e s m below meth c b E q nq qm sa Q ls (B + 100) 702) : lawK p l e s m below meth c b E q nq qm sa Q ls B 459 := by
  intro ha un svd sg le hv sv jb jr lf jf rd vr G z pa sl msv sp pd od pm ty om st wr H locs hR hP hD hS
  obtain ⟨hx, hb, hr, hml, hown, hts, hX, hbl, hlocks, hgv⟩ := id C0
  have hb : c.code = cL_law := hb
  have hown : s.vm.findClass RL = some m.cls := hown
  have htsL : ∀ v ∈ wsL_law, v.before #[.ref b] s = true := fun v h => hts v (wsL_law_in v h)
  have hA : ∀ a : Nat, s.heap.size ≤ a → (fun a : Nat => s.heap.size ≤ a) a := fun _ h => h
  have hbA : ¬ (fun a : Nat => s.heap.size ≤ a) b := Nat.not_le.mpr hbl
  obtain ⟨f1, f2, f3, f4, f5, f6, f7, f8, f9, f10, f11, f12, f13, f14, f15, f16, f17, f18⟩ := Rel_facts hR hB
  have f19 : AG z := f16.ag
  have f20 : CZ z := f16.1
  obtain ⟨a1, e1⟩ : ∃ v : Int, (xs (i + 1).toNat).toInt = v := ⟨_, rfl⟩
  have r1 : rg a1 := by rw [← e1]; exact iI_rg _
  refine lv_aload_n hx hb dL_law_459 rfl (lv_at hl 2 rfl) ?_
  refine lv_aload_n hx hb dL_law_460 rfl (lv_at hl 3 rfl) ?_
  refine lv_iload_n hx hb dL_law_461 rfl (lv_at hl 0 rfl) ?_
  refine lv_iconst (v := iI 1) hx hb dL_law_462 (by decide) ?_
  refine z_iadd hx hb dL_law_463 ?_
  refine z_sld hx hb hX hbl hbA hS e1 (by omega) (by omega) (by omega) dL_law_464 ?_
  refine z_callV (w := wN E q nq sa ha un svd sg le hv sv jb jr lf jf rd vr G) (wr := wM E qm z pa sl msv sp pd od pm ty om st wr) (ci := 3) (qk := 0) (As := [.int (iI a1)]) (rest := []) hx hb hml hown htsL hK hA hl.1 hP hD hS (c_X3_groups l E q nq sa ha un svd sg le hv sv jb jr lf jf rd vr G a1 (by first | assumption | omega) (by first | assumption | omega) (by first | assumption | omega)) gL_law_X3_groups rfl ndX3_groups ⟨Nat.le_of_ble_eq_true rfl, Nat.le_of_ble_eq_true rfl⟩ rfl rfl rfl rfl rfl (Nat.le_of_ble_eq_true rfl) dL_law_465 ⟨Nat.le_of_ble_eq_true rfl, Nat.le_of_ble_eq_true rfl⟩ (fun x u H locs hpost hP hD hS => ?_)
  subst x
  refine lv_aload_n hx hb dL_law_468 rfl (lv_at hl 1 rfl) ?_
  refine lv_aload_n hx hb dL_law_469 rfl (lv_at hl 3 rfl) ?_
  refine lv_iload_n hx hb dL_law_470 rfl (lv_at hl 0 rfl) ?_
  refine lv_iconst (v := iI 1) hx hb dL_law_471 (by decide) ?_
  refine z_iadd hx hb dL_law_472 ?_
  refine z_sld hx hb hX hbl hbA hS e1 (by omega) (by omega) (by omega) dL_law_473 ?_
  refine z_callL (w := wM E qm z pa sl msv sp pd od pm ty om st wr) (ci := 4) (qk := 0) (As := [.int (iI a1)]) (rest := [.int (iI _)]) hx hb hml hown htsL hK hA hl.1 hP hD hS (c_X4_groups l E qm z pa sl msv sp pd od pm ty om st wr a1 (by first | assumption | omega) (by first | assumption | omega)) gL_law_X4_groups rfl ndX4_groups ⟨Nat.le_of_ble_eq_true rfl, Nat.le_of_ble_eq_true rfl⟩ rfl rfl rfl rfl rfl (Nat.le_of_ble_eq_true rfl) dL_law_474 ⟨Nat.le_of_ble_eq_true rfl, Nat.le_of_ble_eq_true rfl⟩ (fun x u H locs hpost hP hD hS => ?_)
  subst x
  have hans := L_groups (k := a1) hR (by omega)
  refine lv_icmp_eq (tgt := 702) hx hb dL_law_477 (by decide) (fun _ => ?_) (fun q1 => absurd (by rw [hans.1]) q1)
  exact kk _ _ _ _ _ _ _ _ _ _ _ _ _ _ _ _ _ _ _ _ _ _ _ _ _ _ H locs hans.2 hP hD hS
set_option maxRecDepth 100000 in
set_option maxHeartbeats 400000 in
theorem law_rolls (C0 : lw_At p s m meth c b L xs) (hK : va_K E.1 vwCl (zT E) s) (hB : B ≤ 90000000) {i : Int} (hi : 0 ≤ i ∧ i + 4 ≤ L) (hL : L ≤ 2048) (hl : lv_has ls 4 [(3, .int (iI i)), (2, .ref (qm 0)), (1, .ref (q 0)), (0, .ref b)]) (kk : lawK p l e s m below meth c b E q nq qm sa Q ls (B + 100) 702) : lawK p l e s m below meth c b E q nq qm sa Q ls B 482 := by
  intro ha un svd sg le hv sv jb jr lf jf rd vr G z pa sl msv sp pd od pm ty om st wr H locs hR hP hD hS
  obtain ⟨hx, hb, hr, hml, hown, hts, hX, hbl, hlocks, hgv⟩ := id C0
  have hb : c.code = cL_law := hb
  have hown : s.vm.findClass RL = some m.cls := hown
  have htsL : ∀ v ∈ wsL_law, v.before #[.ref b] s = true := fun v h => hts v (wsL_law_in v h)
  have hA : ∀ a : Nat, s.heap.size ≤ a → (fun a : Nat => s.heap.size ≤ a) a := fun _ h => h
  have hbA : ¬ (fun a : Nat => s.heap.size ≤ a) b := Nat.not_le.mpr hbl
  obtain ⟨f1, f2, f3, f4, f5, f6, f7, f8, f9, f10, f11, f12, f13, f14, f15, f16, f17, f18⟩ := Rel_facts hR hB
  have f19 : AG z := f16.ag
  have f20 : CZ z := f16.1
  obtain ⟨a1, e1⟩ : ∃ v : Int, (xs (i + 1).toNat).toInt = v := ⟨_, rfl⟩
  have r1 : rg a1 := by rw [← e1]; exact iI_rg _
  refine lv_aload_n hx hb dL_law_482 rfl (lv_at hl 2 rfl) ?_
  refine lv_aload_n hx hb dL_law_483 rfl (lv_at hl 3 rfl) ?_
  refine lv_iload_n hx hb dL_law_484 rfl (lv_at hl 0 rfl) ?_
  refine lv_iconst (v := iI 1) hx hb dL_law_485 (by decide) ?_
  refine z_iadd hx hb dL_law_486 ?_
  refine z_sld hx hb hX hbl hbA hS e1 (by omega) (by omega) (by omega) dL_law_487 ?_
  refine z_callV (w := wN E q nq sa ha un svd sg le hv sv jb jr lf jf rd vr G) (wr := wM E qm z pa sl msv sp pd od pm ty om st wr) (ci := 3) (qk := 0) (As := [.int (iI a1)]) (rest := []) hx hb hml hown htsL hK hA hl.1 hP hD hS (c_X3_rolls l E q nq sa ha un svd sg le hv sv jb jr lf jf rd vr G a1 (by first | assumption | omega) (by first | assumption | omega)) gL_law_X3_rolls rfl ndX3_rolls ⟨Nat.le_of_ble_eq_true rfl, Nat.le_of_ble_eq_true rfl⟩ rfl rfl rfl rfl rfl (Nat.le_of_ble_eq_true rfl) dL_law_488 ⟨Nat.le_of_ble_eq_true rfl, Nat.le_of_ble_eq_true rfl⟩ (fun x u H locs hpost hP hD hS => ?_)
  subst x
  refine lv_aload_n hx hb dL_law_491 rfl (lv_at hl 1 rfl) ?_
  refine lv_aload_n hx hb dL_law_492 rfl (lv_at hl 3 rfl) ?_
  refine lv_iload_n hx hb dL_law_493 rfl (lv_at hl 0 rfl) ?_
  refine lv_iconst (v := iI 1) hx hb dL_law_494 (by decide) ?_
  refine z_iadd hx hb dL_law_495 ?_
  refine z_sld hx hb hX hbl hbA hS e1 (by omega) (by omega) (by omega) dL_law_496 ?_
  refine z_callL (w := wM E qm z pa sl msv sp pd od pm ty om st wr) (ci := 4) (qk := 0) (As := [.int (iI a1)]) (rest := [.int (iI _)]) hx hb hml hown htsL hK hA hl.1 hP hD hS (c_X4_rolls l E qm z pa sl msv sp pd od pm ty om st wr a1 (by first | assumption | omega) (by first | assumption | omega)) gL_law_X4_rolls rfl ndX4_rolls ⟨Nat.le_of_ble_eq_true rfl, Nat.le_of_ble_eq_true rfl⟩ rfl rfl rfl rfl rfl (Nat.le_of_ble_eq_true rfl) dL_law_497 ⟨Nat.le_of_ble_eq_true rfl, Nat.le_of_ble_eq_true rfl⟩ (fun x u H locs hpost hP hD hS => ?_)
  subst x
  have hans := L_rolls (gr := a1) hR (by omega)
  refine lv_icmp_eq (tgt := 702) hx hb dL_law_500 (by decide) (fun _ => ?_) (fun q1 => absurd (by rw [hans.1]) q1)
  exact kk _ _ _ _ _ _ _ _ _ _ _ _ _ _ _ _ _ _ _ _ _ _ _ _ _ _ H locs hans.2 hP hD hS
set_option maxRecDepth 100000 in
set_option maxHeartbeats 400000 in
theorem law_ifFailed (C0 : lw_At p s m meth c b L xs) (hK : va_K E.1 vwCl (zT E) s) (hB : B ≤ 90000000) {i : Int} (hi : 0 ≤ i ∧ i + 4 ≤ L) (hL : L ≤ 2048) (hl : lv_has ls 4 [(3, .int (iI i)), (2, .ref (qm 0)), (1, .ref (q 0)), (0, .ref b)]) (kk : lawK p l e s m below meth c b E q nq qm sa Q ls (B + 100) 702) : lawK p l e s m below meth c b E q nq qm sa Q ls B 505 := by
  intro ha un svd sg le hv sv jb jr lf jf rd vr G z pa sl msv sp pd od pm ty om st wr H locs hR hP hD hS
  obtain ⟨hx, hb, hr, hml, hown, hts, hX, hbl, hlocks, hgv⟩ := id C0
  have hb : c.code = cL_law := hb
  have hown : s.vm.findClass RL = some m.cls := hown
  have htsL : ∀ v ∈ wsL_law, v.before #[.ref b] s = true := fun v h => hts v (wsL_law_in v h)
  have hA : ∀ a : Nat, s.heap.size ≤ a → (fun a : Nat => s.heap.size ≤ a) a := fun _ h => h
  have hbA : ¬ (fun a : Nat => s.heap.size ≤ a) b := Nat.not_le.mpr hbl
  obtain ⟨f1, f2, f3, f4, f5, f6, f7, f8, f9, f10, f11, f12, f13, f14, f15, f16, f17, f18⟩ := Rel_facts hR hB
  have f19 : AG z := f16.ag
  have f20 : CZ z := f16.1
  obtain ⟨a1, e1⟩ : ∃ v : Int, (xs (i + 1).toNat).toInt = v := ⟨_, rfl⟩
  have r1 : rg a1 := by rw [← e1]; exact iI_rg _
  refine lv_aload_n hx hb dL_law_505 rfl (lv_at hl 2 rfl) ?_
  refine lv_aload_n hx hb dL_law_506 rfl (lv_at hl 3 rfl) ?_
  refine lv_iload_n hx hb dL_law_507 rfl (lv_at hl 0 rfl) ?_
  refine lv_iconst (v := iI 1) hx hb dL_law_508 (by decide) ?_
  refine z_iadd hx hb dL_law_509 ?_
  refine z_sld hx hb hX hbl hbA hS e1 (by omega) (by omega) (by omega) dL_law_510 ?_
  refine z_callV (w := wN E q nq sa ha un svd sg le hv sv jb jr lf jf rd vr G) (wr := wM E qm z pa sl msv sp pd od pm ty om st wr) (ci := 3) (qk := 0) (As := [.int (iI a1)]) (rest := []) hx hb hml hown htsL hK hA hl.1 hP hD hS (c_X3_ifFailed l E q nq sa ha un svd sg le hv sv jb jr lf jf rd vr G a1 (by first | assumption | omega) (by first | assumption | omega) (by first | assumption | omega)) gL_law_X3_ifFailed rfl ndX3_ifFailed ⟨Nat.le_of_ble_eq_true rfl, Nat.le_of_ble_eq_true rfl⟩ rfl rfl rfl rfl rfl (Nat.le_of_ble_eq_true rfl) dL_law_511 ⟨Nat.le_of_ble_eq_true rfl, Nat.le_of_ble_eq_true rfl⟩ (fun x u H locs hpost hP hD hS => ?_)
  subst x
  refine lv_aload_n hx hb dL_law_514 rfl (lv_at hl 1 rfl) ?_
  refine lv_aload_n hx hb dL_law_515 rfl (lv_at hl 3 rfl) ?_
  refine lv_iload_n hx hb dL_law_516 rfl (lv_at hl 0 rfl) ?_
  refine lv_iconst (v := iI 1) hx hb dL_law_517 (by decide) ?_
  refine z_iadd hx hb dL_law_518 ?_
  refine z_sld hx hb hX hbl hbA hS e1 (by omega) (by omega) (by omega) dL_law_519 ?_
  refine z_callL (w := wM E qm z pa sl msv sp pd od pm ty om st wr) (ci := 4) (qk := 0) (As := [.int (iI a1)]) (rest := [.int (iI _)]) hx hb hml hown htsL hK hA hl.1 hP hD hS (c_X4_ifFailed l E qm z pa sl msv sp pd od pm ty om st wr a1 (by first | assumption | omega) (by first | assumption | omega)) gL_law_X4_ifFailed rfl ndX4_ifFailed ⟨Nat.le_of_ble_eq_true rfl, Nat.le_of_ble_eq_true rfl⟩ rfl rfl rfl rfl rfl (Nat.le_of_ble_eq_true rfl) dL_law_520 ⟨Nat.le_of_ble_eq_true rfl, Nat.le_of_ble_eq_true rfl⟩ (fun x u H locs hpost hP hD hS => ?_)
  subst x
  have hans := L_ifFailed (gr := a1) (sp := sp) hR (by omega)
  refine lv_icmp_eq (tgt := 702) hx hb dL_law_523 (by decide) (fun _ => ?_) (fun q1 => absurd (by rw [hans.1]) q1)
  exact kk _ _ _ _ _ _ _ _ _ _ _ _ _ _ _ _ _ _ _ _ _ _ _ _ _ _ H locs hans.2 hP hD hS
set_option maxRecDepth 100000 in
set_option maxHeartbeats 400000 in
theorem law_leastKeep (C0 : lw_At p s m meth c b L xs) (hK : va_K E.1 vwCl (zT E) s) (hB : B ≤ 90000000) {i : Int} (hi : 0 ≤ i ∧ i + 4 ≤ L) (hL : L ≤ 2048) (hl : lv_has ls 4 [(3, .int (iI i)), (2, .ref (qm 0)), (1, .ref (q 0)), (0, .ref b)]) (kk : lawK p l e s m below meth c b E q nq qm sa Q ls (B + 100) 702) : lawK p l e s m below meth c b E q nq qm sa Q ls B 528 := by
  intro ha un svd sg le hv sv jb jr lf jf rd vr G z pa sl msv sp pd od pm ty om st wr H locs hR hP hD hS
  obtain ⟨hx, hb, hr, hml, hown, hts, hX, hbl, hlocks, hgv⟩ := id C0
  have hb : c.code = cL_law := hb
  have hown : s.vm.findClass RL = some m.cls := hown
  have htsL : ∀ v ∈ wsL_law, v.before #[.ref b] s = true := fun v h => hts v (wsL_law_in v h)
  have hA : ∀ a : Nat, s.heap.size ≤ a → (fun a : Nat => s.heap.size ≤ a) a := fun _ h => h
  have hbA : ¬ (fun a : Nat => s.heap.size ≤ a) b := Nat.not_le.mpr hbl
  obtain ⟨f1, f2, f3, f4, f5, f6, f7, f8, f9, f10, f11, f12, f13, f14, f15, f16, f17, f18⟩ := Rel_facts hR hB
  have f19 : AG z := f16.ag
  have f20 : CZ z := f16.1
  obtain ⟨a1, e1⟩ : ∃ v : Int, (xs (i + 1).toNat).toInt = v := ⟨_, rfl⟩
  have r1 : rg a1 := by rw [← e1]; exact iI_rg _
  refine lv_aload_n hx hb dL_law_528 rfl (lv_at hl 2 rfl) ?_
  refine lv_aload_n hx hb dL_law_529 rfl (lv_at hl 3 rfl) ?_
  refine lv_iload_n hx hb dL_law_530 rfl (lv_at hl 0 rfl) ?_
  refine lv_iconst (v := iI 1) hx hb dL_law_531 (by decide) ?_
  refine z_iadd hx hb dL_law_532 ?_
  refine z_sld hx hb hX hbl hbA hS e1 (by omega) (by omega) (by omega) dL_law_533 ?_
  refine z_callV (w := wN E q nq sa ha un svd sg le hv sv jb jr lf jf rd vr G) (wr := wM E qm z pa sl msv sp pd od pm ty om st wr) (ci := 3) (qk := 0) (As := [.int (iI a1)]) (rest := []) hx hb hml hown htsL hK hA hl.1 hP hD hS (c_X3_leastKeep l E q nq sa ha un svd sg le hv sv jb jr lf jf rd vr G a1 (by first | assumption | omega) (by first | assumption | omega)) gL_law_X3_leastKeep rfl ndX3_leastKeep ⟨Nat.le_of_ble_eq_true rfl, Nat.le_of_ble_eq_true rfl⟩ rfl rfl rfl rfl rfl (Nat.le_of_ble_eq_true rfl) dL_law_534 ⟨Nat.le_of_ble_eq_true rfl, Nat.le_of_ble_eq_true rfl⟩ (fun x u H locs hpost hP hD hS => ?_)
  subst x
  refine lv_aload_n hx hb dL_law_537 rfl (lv_at hl 1 rfl) ?_
  refine lv_aload_n hx hb dL_law_538 rfl (lv_at hl 3 rfl) ?_
  refine lv_iload_n hx hb dL_law_539 rfl (lv_at hl 0 rfl) ?_
  refine lv_iconst (v := iI 1) hx hb dL_law_540 (by decide) ?_
  refine z_iadd hx hb dL_law_541 ?_
  refine z_sld hx hb hX hbl hbA hS e1 (by omega) (by omega) (by omega) dL_law_542 ?_
  refine z_callL (w := wM E qm z pa sl msv sp pd od pm ty om st wr) (ci := 4) (qk := 0) (As := [.int (iI a1)]) (rest := [.int (iI _)]) hx hb hml hown htsL hK hA hl.1 hP hD hS (c_X4_leastKeep l E qm z pa sl msv sp pd od pm ty om st wr a1 (by first | assumption | omega) (by first | assumption | omega)) gL_law_X4_leastKeep rfl ndX4_leastKeep ⟨Nat.le_of_ble_eq_true rfl, Nat.le_of_ble_eq_true rfl⟩ rfl rfl rfl rfl rfl (Nat.le_of_ble_eq_true rfl) dL_law_543 ⟨Nat.le_of_ble_eq_true rfl, Nat.le_of_ble_eq_true rfl⟩ (fun x u H locs hpost hP hD hS => ?_)
  subst x
  have hans := L_leastKeep (gr := a1) hR (by omega)
  refine lv_icmp_eq (tgt := 702) hx hb dL_law_546 (by decide) (fun _ => ?_) (fun q1 => absurd (by rw [hans.1]) q1)
  exact kk _ _ _ _ _ _ _ _ _ _ _ _ _ _ _ _ _ _ _ _ _ _ _ _ _ _ H locs hans.2 hP hD hS
set_option maxRecDepth 100000 in
set_option maxHeartbeats 400000 in
theorem law_put (C0 : lw_At p s m meth c b L xs) (hK : va_K E.1 vwCl (zT E) s) (hB : B ≤ 90000000) {i : Int} (hi : 0 ≤ i ∧ i + 4 ≤ L) (hL : L ≤ 2048) (hl : lv_has ls 4 [(3, .int (iI i)), (2, .ref (qm 0)), (1, .ref (q 0)), (0, .ref b)]) (kk : lawK p l e s m below meth c b E q nq qm sa Q ls (B + 100) 702) : lawK p l e s m below meth c b E q nq qm sa Q ls B 551 := by
  intro ha un svd sg le hv sv jb jr lf jf rd vr G z pa sl msv sp pd od pm ty om st wr H locs hR hP hD hS
  obtain ⟨hx, hb, hr, hml, hown, hts, hX, hbl, hlocks, hgv⟩ := id C0
  have hb : c.code = cL_law := hb
  have hown : s.vm.findClass RL = some m.cls := hown
  have htsL : ∀ v ∈ wsL_law, v.before #[.ref b] s = true := fun v h => hts v (wsL_law_in v h)
  have hA : ∀ a : Nat, s.heap.size ≤ a → (fun a : Nat => s.heap.size ≤ a) a := fun _ h => h
  have hbA : ¬ (fun a : Nat => s.heap.size ≤ a) b := Nat.not_le.mpr hbl
  obtain ⟨f1, f2, f3, f4, f5, f6, f7, f8, f9, f10, f11, f12, f13, f14, f15, f16, f17, f18⟩ := Rel_facts hR hB
  have f19 : AG z := f16.ag
  have f20 : CZ z := f16.1
  obtain ⟨a1, e1⟩ : ∃ v : Int, (xs (i + 1).toNat).toInt = v := ⟨_, rfl⟩
  have r1 : rg a1 := by rw [← e1]; exact iI_rg _
  obtain ⟨a2, e2⟩ : ∃ v : Int, (xs (i + 2).toNat).toInt = v := ⟨_, rfl⟩
  have r2 : rg a2 := by rw [← e2]; exact iI_rg _
  refine lv_aload_n hx hb dL_law_551 rfl (lv_at hl 2 rfl) ?_
  refine lv_aload_n hx hb dL_law_552 rfl (lv_at hl 3 rfl) ?_
  refine lv_iload_n hx hb dL_law_553 rfl (lv_at hl 0 rfl) ?_
  refine lv_iconst (v := iI 1) hx hb dL_law_554 (by decide) ?_
  refine z_iadd hx hb dL_law_555 ?_
  refine z_sld hx hb hX hbl hbA hS e1 (by omega) (by omega) (by omega) dL_law_556 ?_
  refine lv_i2l (v := (iI a1).toInt64) hx hb dL_law_557 rfl ?_
  refine lv_bipush (v := iI 32) hx hb dL_law_558 (by decide) ?_
  refine lv_lshl hx hb dL_law_560 rfl ?_
  refine lv_aload_n hx hb dL_law_561 rfl (lv_at hl 3 rfl) ?_
  refine lv_iload_n hx hb dL_law_562 rfl (lv_at hl 0 rfl) ?_
  refine lv_iconst (v := iI 2) hx hb dL_law_563 (by decide) ?_
  refine z_iadd hx hb dL_law_564 ?_
  refine z_sld hx hb hX hbl hbA hS e2 (by omega) (by omega) (by omega) dL_law_565 ?_
  refine lv_i2l (v := (iI a2).toInt64) hx hb dL_law_566 rfl ?_
  refine lv_ldc2 (v := 4294967295) hx hb hown (hts (.constantLong RL 77 4294967295) (List.mem_append_right _ (List.mem_of_getElem? (i := 778) (by decide +kernel)))) dL_law_567 ?_
  refine lv_land hx hb dL_law_570 ?_
  refine lv_lor hx hb dL_law_571 ?_
  refine lv_topl (fun v1 ev1 => ?_)
  obtain ⟨cu, hcu, hcv⟩ := lL_of v1
  subst hcv
  refine z_callV (w := wN E q nq sa ha un svd sg le hv sv jb jr lf jf rd vr G) (wr := wM E qm z pa sl msv sp pd od pm ty om st wr) (ci := 3) (qk := 0) (As := [.long (lL cu)]) (rest := []) hx hb hml hown htsL hK hA hl.1 hP hD hS (c_X3_put l E q nq sa ha un svd sg le hv sv jb jr lf jf rd vr G cu (by first | assumption | omega) (by first | assumption | omega)) gL_law_X3_put rfl ndX3_put ⟨Nat.le_of_ble_eq_true rfl, Nat.le_of_ble_eq_true rfl⟩ rfl rfl rfl rfl rfl (Nat.le_of_ble_eq_true rfl) dL_law_572 ⟨Nat.le_of_ble_eq_true rfl, Nat.le_of_ble_eq_true rfl⟩ (fun x u H locs hpost hP hD hS => ?_)
  subst x
  refine lv_aload_n hx hb dL_law_575 rfl (lv_at hl 1 rfl) ?_
  refine lv_aload_n hx hb dL_law_576 rfl (lv_at hl 3 rfl) ?_
  refine lv_iload_n hx hb dL_law_577 rfl (lv_at hl 0 rfl) ?_
  refine lv_iconst (v := iI 1) hx hb dL_law_578 (by decide) ?_
  refine z_iadd hx hb dL_law_579 ?_
  refine z_sld hx hb hX hbl hbA hS e1 (by omega) (by omega) (by omega) dL_law_580 ?_
  refine lv_i2l (v := (iI a1).toInt64) hx hb dL_law_581 rfl ?_
  refine lv_bipush (v := iI 32) hx hb dL_law_582 (by decide) ?_
  refine lv_lshl hx hb dL_law_584 rfl ?_
  refine lv_aload_n hx hb dL_law_585 rfl (lv_at hl 3 rfl) ?_
  refine lv_iload_n hx hb dL_law_586 rfl (lv_at hl 0 rfl) ?_
  refine lv_iconst (v := iI 2) hx hb dL_law_587 (by decide) ?_
  refine z_iadd hx hb dL_law_588 ?_
  refine z_sld hx hb hX hbl hbA hS e2 (by omega) (by omega) (by omega) dL_law_589 ?_
  refine lv_i2l (v := (iI a2).toInt64) hx hb dL_law_590 rfl ?_
  refine lv_ldc2 (v := 4294967295) hx hb hown (hts (.constantLong RL 77 4294967295) (List.mem_append_right _ (List.mem_of_getElem? (i := 778) (by decide +kernel)))) dL_law_591 ?_
  refine lv_land hx hb dL_law_594 ?_
  refine lv_lor hx hb dL_law_595 ?_
  refine lv_topl (fun v2 ev2 => ?_)
  obtain rfl : v2 = lL cu := ev2.trans ev1.symm
  refine z_callL (w := wM E qm z pa sl msv sp pd od pm ty om st wr) (ci := 4) (qk := 0) (As := [.long (lL cu)]) (rest := [.int (iI _)]) hx hb hml hown htsL hK hA hl.1 hP hD hS (c_X4_put l E qm z pa sl msv sp pd od pm ty om st wr cu (by first | assumption | omega) (by first | assumption | omega)) gL_law_X4_put rfl ndX4_put ⟨Nat.le_of_ble_eq_true rfl, Nat.le_of_ble_eq_true rfl⟩ rfl rfl rfl rfl rfl (Nat.le_of_ble_eq_true rfl) dL_law_596 ⟨Nat.le_of_ble_eq_true rfl, Nat.le_of_ble_eq_true rfl⟩ (fun x u H locs hpost hP hD hS => ?_)
  subst x
  have hans := L_put (cu := cu) hR (by omega) hcu
  refine lv_icmp_eq (tgt := 702) hx hb dL_law_599 (by decide) (fun _ => ?_) (fun q1 => absurd (by rw [hans.1]) q1)
  exact kk _ _ _ _ _ _ _ _ _ _ _ _ _ _ _ _ _ _ _ _ _ _ _ _ _ _ H locs hans.2 hP hD hS
set_option maxRecDepth 100000 in
set_option maxHeartbeats 400000 in
theorem law_wipe (C0 : lw_At p s m meth c b L xs) (hK : va_K E.1 vwCl (zT E) s) (hB : B ≤ 90000000) {i : Int} (hi : 0 ≤ i ∧ i + 4 ≤ L) (hL : L ≤ 2048) (hl : lv_has ls 4 [(3, .int (iI i)), (2, .ref (qm 0)), (1, .ref (q 0)), (0, .ref b)]) (kk : lawK p l e s m below meth c b E q nq qm sa Q ls (B + 100) 702) : lawK p l e s m below meth c b E q nq qm sa Q ls B 604 := by
  intro ha un svd sg le hv sv jb jr lf jf rd vr G z pa sl msv sp pd od pm ty om st wr H locs hR hP hD hS
  obtain ⟨hx, hb, hr, hml, hown, hts, hX, hbl, hlocks, hgv⟩ := id C0
  have hb : c.code = cL_law := hb
  have hown : s.vm.findClass RL = some m.cls := hown
  have htsL : ∀ v ∈ wsL_law, v.before #[.ref b] s = true := fun v h => hts v (wsL_law_in v h)
  have hA : ∀ a : Nat, s.heap.size ≤ a → (fun a : Nat => s.heap.size ≤ a) a := fun _ h => h
  have hbA : ¬ (fun a : Nat => s.heap.size ≤ a) b := Nat.not_le.mpr hbl
  obtain ⟨f1, f2, f3, f4, f5, f6, f7, f8, f9, f10, f11, f12, f13, f14, f15, f16, f17, f18⟩ := Rel_facts hR hB
  have f19 : AG z := f16.ag
  have f20 : CZ z := f16.1
  refine lv_aload_n hx hb dL_law_604 rfl (lv_at hl 2 rfl) ?_
  refine z_callV (w := wN E q nq sa ha un svd sg le hv sv jb jr lf jf rd vr G) (wr := wM E qm z pa sl msv sp pd od pm ty om st wr) (ci := 3) (qk := 0) (As := []) (rest := []) hx hb hml hown htsL hK hA hl.1 hP hD hS (c_X3_wipe l E q nq sa ha un svd sg le hv sv jb jr lf jf rd vr G  ) gL_law_X3_wipe rfl ndX3_wipe ⟨Nat.le_of_ble_eq_true rfl, Nat.le_of_ble_eq_true rfl⟩ rfl rfl rfl rfl rfl (Nat.le_of_ble_eq_true rfl) dL_law_605 ⟨Nat.le_of_ble_eq_true rfl, Nat.le_of_ble_eq_true rfl⟩ (fun x u H locs hpost hP hD hS => ?_)
  subst x
  refine lv_aload_n hx hb dL_law_608 rfl (lv_at hl 1 rfl) ?_
  refine z_callL (w := wM E qm z pa sl msv sp pd od pm ty om st wr) (ci := 4) (qk := 0) (As := []) (rest := [.int (iI _)]) hx hb hml hown htsL hK hA hl.1 hP hD hS (c_X4_wipe l E qm z pa sl msv sp pd od pm ty om st wr  ) gL_law_X4_wipe rfl ndX4_wipe ⟨Nat.le_of_ble_eq_true rfl, Nat.le_of_ble_eq_true rfl⟩ rfl rfl rfl rfl rfl (Nat.le_of_ble_eq_true rfl) dL_law_609 ⟨Nat.le_of_ble_eq_true rfl, Nat.le_of_ble_eq_true rfl⟩ (fun x u H locs hpost hP hD hS => ?_)
  subst x
  have hans := L_wipe  hR (by omega)
  refine lv_icmp_eq (tgt := 702) hx hb dL_law_612 (by decide) (fun _ => ?_) (fun q1 => absurd (by rw [hans.1]) q1)
  exact kk _ _ _ _ _ _ _ _ _ _ _ _ _ _ _ _ _ _ _ _ _ _ _ _ _ _ H locs hans.2 hP hD hS
set_option maxRecDepth 100000 in
set_option maxHeartbeats 400000 in
theorem law_fault (C0 : lw_At p s m meth c b L xs) (hK : va_K E.1 vwCl (zT E) s) (hB : B ≤ 90000000) {i : Int} (hi : 0 ≤ i ∧ i + 4 ≤ L) (hL : L ≤ 2048) (hl : lv_has ls 4 [(3, .int (iI i)), (2, .ref (qm 0)), (1, .ref (q 0)), (0, .ref b)]) (kk : lawK p l e s m below meth c b E q nq qm sa Q ls (B + 100) 702) : lawK p l e s m below meth c b E q nq qm sa Q ls B 617 := by
  intro ha un svd sg le hv sv jb jr lf jf rd vr G z pa sl msv sp pd od pm ty om st wr H locs hR hP hD hS
  obtain ⟨hx, hb, hr, hml, hown, hts, hX, hbl, hlocks, hgv⟩ := id C0
  have hb : c.code = cL_law := hb
  have hown : s.vm.findClass RL = some m.cls := hown
  have htsL : ∀ v ∈ wsL_law, v.before #[.ref b] s = true := fun v h => hts v (wsL_law_in v h)
  have hA : ∀ a : Nat, s.heap.size ≤ a → (fun a : Nat => s.heap.size ≤ a) a := fun _ h => h
  have hbA : ¬ (fun a : Nat => s.heap.size ≤ a) b := Nat.not_le.mpr hbl
  obtain ⟨f1, f2, f3, f4, f5, f6, f7, f8, f9, f10, f11, f12, f13, f14, f15, f16, f17, f18⟩ := Rel_facts hR hB
  have f19 : AG z := f16.ag
  have f20 : CZ z := f16.1
  refine lv_aload_n hx hb dL_law_617 rfl (lv_at hl 2 rfl) ?_
  refine z_callV (w := wN E q nq sa ha un svd sg le hv sv jb jr lf jf rd vr G) (wr := wM E qm z pa sl msv sp pd od pm ty om st wr) (ci := 3) (qk := 0) (As := []) (rest := []) hx hb hml hown htsL hK hA hl.1 hP hD hS (c_X3_fault l E q nq sa ha un svd sg le hv sv jb jr lf jf rd vr G  (by first | assumption | omega) (by first | assumption | omega)) gL_law_X3_fault rfl ndX3_fault ⟨Nat.le_of_ble_eq_true rfl, Nat.le_of_ble_eq_true rfl⟩ rfl rfl rfl rfl rfl (Nat.le_of_ble_eq_true rfl) dL_law_618 ⟨Nat.le_of_ble_eq_true rfl, Nat.le_of_ble_eq_true rfl⟩ (fun x u H locs hpost hP hD hS => ?_)
  subst x
  refine lv_aload_n hx hb dL_law_621 rfl (lv_at hl 1 rfl) ?_
  refine z_callL (w := wM E qm z pa sl msv sp pd od pm ty om st wr) (ci := 4) (qk := 0) (As := []) (rest := [.int (iI _)]) hx hb hml hown htsL hK hA hl.1 hP hD hS (c_X4_fault l E qm z pa sl msv sp pd od pm ty om st wr  (by first | assumption | omega) (by first | assumption | omega)) gL_law_X4_fault rfl ndX4_fault ⟨Nat.le_of_ble_eq_true rfl, Nat.le_of_ble_eq_true rfl⟩ rfl rfl rfl rfl rfl (Nat.le_of_ble_eq_true rfl) dL_law_622 ⟨Nat.le_of_ble_eq_true rfl, Nat.le_of_ble_eq_true rfl⟩ (fun x u H locs hpost hP hD hS => ?_)
  subst x
  have hans := L_fault  (od := od) hR (by omega)
  refine lv_icmp_eq (tgt := 702) hx hb dL_law_625 (by decide) (fun _ => ?_) (fun q1 => absurd (by rw [hans.1]) q1)
  exact kk _ _ _ _ _ _ _ _ _ _ _ _ _ _ _ _ _ _ _ _ _ _ _ _ _ _ H locs hans.2 hP hD hS
set_option maxRecDepth 100000 in
set_option maxHeartbeats 400000 in
theorem law_carryOut (C0 : lw_At p s m meth c b L xs) (hK : va_K E.1 vwCl (zT E) s) (hB : B ≤ 90000000) {i : Int} (hi : 0 ≤ i ∧ i + 4 ≤ L) (hL : L ≤ 2048) (hl : lv_has ls 4 [(3, .int (iI i)), (2, .ref (qm 0)), (1, .ref (q 0)), (0, .ref b)]) (kk : lawK p l e s m below meth c b E q nq qm sa Q ls (B + 100) 702) : lawK p l e s m below meth c b E q nq qm sa Q ls B 630 := by
  intro ha un svd sg le hv sv jb jr lf jf rd vr G z pa sl msv sp pd od pm ty om st wr H locs hR hP hD hS
  obtain ⟨hx, hb, hr, hml, hown, hts, hX, hbl, hlocks, hgv⟩ := id C0
  have hb : c.code = cL_law := hb
  have hown : s.vm.findClass RL = some m.cls := hown
  have htsL : ∀ v ∈ wsL_law, v.before #[.ref b] s = true := fun v h => hts v (wsL_law_in v h)
  have hA : ∀ a : Nat, s.heap.size ≤ a → (fun a : Nat => s.heap.size ≤ a) a := fun _ h => h
  have hbA : ¬ (fun a : Nat => s.heap.size ≤ a) b := Nat.not_le.mpr hbl
  obtain ⟨f1, f2, f3, f4, f5, f6, f7, f8, f9, f10, f11, f12, f13, f14, f15, f16, f17, f18⟩ := Rel_facts hR hB
  have f19 : AG z := f16.ag
  have f20 : CZ z := f16.1
  refine lv_aload_n hx hb dL_law_630 rfl (lv_at hl 2 rfl) ?_
  refine z_callV (w := wN E q nq sa ha un svd sg le hv sv jb jr lf jf rd vr G) (wr := wM E qm z pa sl msv sp pd od pm ty om st wr) (ci := 3) (qk := 0) (As := []) (rest := []) hx hb hml hown htsL hK hA hl.1 hP hD hS (c_X3_carryOut l E q nq sa ha un svd sg le hv sv jb jr lf jf rd vr G  (by first | assumption | omega) (by first | assumption | omega) (by first | assumption | omega) (by first | assumption | omega) (by first | assumption | omega) (by first | assumption | omega) (by first | assumption | omega) (by first | assumption | omega)) gL_law_X3_carryOut rfl ndX3_carryOut ⟨Nat.le_of_ble_eq_true rfl, Nat.le_of_ble_eq_true rfl⟩ rfl rfl rfl rfl rfl (Nat.le_of_ble_eq_true rfl) dL_law_631 ⟨Nat.le_of_ble_eq_true rfl, Nat.le_of_ble_eq_true rfl⟩ (fun x u H locs hpost hP hD hS => ?_)
  subst x
  refine lv_aload_n hx hb dL_law_634 rfl (lv_at hl 1 rfl) ?_
  refine z_callL (w := wM E qm z pa sl msv sp pd od pm ty om st wr) (ci := 4) (qk := 0) (As := []) (rest := [.int (iI _)]) hx hb hml hown htsL hK hA hl.1 hP hD hS (c_X4_carryOut l E qm z pa sl msv sp pd od pm ty om st wr  (by first | assumption | omega) (by first | assumption | omega) (by first | assumption | omega) (by first | assumption | omega) (by first | assumption | omega)) gL_law_X4_carryOut rfl ndX4_carryOut ⟨Nat.le_of_ble_eq_true rfl, Nat.le_of_ble_eq_true rfl⟩ rfl rfl rfl rfl rfl (Nat.le_of_ble_eq_true rfl) dL_law_635 ⟨Nat.le_of_ble_eq_true rfl, Nat.le_of_ble_eq_true rfl⟩ (fun x u H locs hpost hP hD hS => ?_)
  subst x
  have hans := L_carryOut  (od := od) hR (by omega)
  refine lv_icmp_eq (tgt := 702) hx hb dL_law_638 (by decide) (fun _ => ?_) (fun q1 => absurd (by rw [hans.1]) q1)
  exact kk _ _ _ _ _ _ _ _ _ _ _ _ _ _ _ _ _ _ _ _ _ _ _ _ _ _ H locs hans.2 hP hD hS
set_option maxRecDepth 100000 in
set_option maxHeartbeats 400000 in
theorem law_undo (C0 : lw_At p s m meth c b L xs) (hK : va_K E.1 vwCl (zT E) s) (hB : B ≤ 90000000) {i : Int} (hi : 0 ≤ i ∧ i + 4 ≤ L) (hL : L ≤ 2048) (hl : lv_has ls 4 [(3, .int (iI i)), (2, .ref (qm 0)), (1, .ref (q 0)), (0, .ref b)]) (kk : lawK p l e s m below meth c b E q nq qm sa Q ls (B + 100) 702) : lawK p l e s m below meth c b E q nq qm sa Q ls B 643 := by
  intro ha un svd sg le hv sv jb jr lf jf rd vr G z pa sl msv sp pd od pm ty om st wr H locs hR hP hD hS
  obtain ⟨hx, hb, hr, hml, hown, hts, hX, hbl, hlocks, hgv⟩ := id C0
  have hb : c.code = cL_law := hb
  have hown : s.vm.findClass RL = some m.cls := hown
  have htsL : ∀ v ∈ wsL_law, v.before #[.ref b] s = true := fun v h => hts v (wsL_law_in v h)
  have hA : ∀ a : Nat, s.heap.size ≤ a → (fun a : Nat => s.heap.size ≤ a) a := fun _ h => h
  have hbA : ¬ (fun a : Nat => s.heap.size ≤ a) b := Nat.not_le.mpr hbl
  obtain ⟨f1, f2, f3, f4, f5, f6, f7, f8, f9, f10, f11, f12, f13, f14, f15, f16, f17, f18⟩ := Rel_facts hR hB
  have f19 : AG z := f16.ag
  have f20 : CZ z := f16.1
  refine lv_aload_n hx hb dL_law_643 rfl (lv_at hl 2 rfl) ?_
  refine z_callV (w := wN E q nq sa ha un svd sg le hv sv jb jr lf jf rd vr G) (wr := wM E qm z pa sl msv sp pd od pm ty om st wr) (ci := 3) (qk := 0) (As := []) (rest := []) hx hb hml hown htsL hK hA hl.1 hP hD hS (c_X3_undo l E q nq sa ha un svd sg le hv sv jb jr lf jf rd vr G  (by first | assumption | omega) (by first | assumption | omega)) gL_law_X3_undo rfl ndX3_undo ⟨Nat.le_of_ble_eq_true rfl, Nat.le_of_ble_eq_true rfl⟩ rfl rfl rfl rfl rfl (Nat.le_of_ble_eq_true rfl) dL_law_644 ⟨Nat.le_of_ble_eq_true rfl, Nat.le_of_ble_eq_true rfl⟩ (fun x u H locs hpost hP hD hS => ?_)
  subst x
  refine lv_aload_n hx hb dL_law_647 rfl (lv_at hl 1 rfl) ?_
  refine z_callL (w := wM E qm z pa sl msv sp pd od pm ty om st wr) (ci := 4) (qk := 0) (As := []) (rest := [.int (iI _)]) hx hb hml hown htsL hK hA hl.1 hP hD hS (c_X4_undo l E qm z pa sl msv sp pd od pm ty om st wr  (by first | assumption | omega)) gL_law_X4_undo rfl ndX4_undo ⟨Nat.le_of_ble_eq_true rfl, Nat.le_of_ble_eq_true rfl⟩ rfl rfl rfl rfl rfl (Nat.le_of_ble_eq_true rfl) dL_law_648 ⟨Nat.le_of_ble_eq_true rfl, Nat.le_of_ble_eq_true rfl⟩ (fun x u H locs hpost hP hD hS => ?_)
  subst x
  have hans := L_undo  hR (by omega)
  refine lv_icmp_eq (tgt := 702) hx hb dL_law_651 (by decide) (fun _ => ?_) (fun q1 => absurd (by rw [hans.1]) q1)
  exact kk _ _ _ _ _ _ _ _ _ _ _ _ _ _ _ _ _ _ _ _ _ _ _ _ _ _ H locs hans.2 hP hD hS
set_option maxRecDepth 100000 in
set_option maxHeartbeats 400000 in
theorem law_save (C0 : lw_At p s m meth c b L xs) (hK : va_K E.1 vwCl (zT E) s) (hB : B ≤ 90000000) {i : Int} (hi : 0 ≤ i ∧ i + 4 ≤ L) (hL : L ≤ 2048) (hl : lv_has ls 4 [(3, .int (iI i)), (2, .ref (qm 0)), (1, .ref (q 0)), (0, .ref b)]) (kk : lawK p l e s m below meth c b E q nq qm sa Q ls (B + 100) 702) : lawK p l e s m below meth c b E q nq qm sa Q ls B 656 := by
  intro ha un svd sg le hv sv jb jr lf jf rd vr G z pa sl msv sp pd od pm ty om st wr H locs hR hP hD hS
  obtain ⟨hx, hb, hr, hml, hown, hts, hX, hbl, hlocks, hgv⟩ := id C0
  have hb : c.code = cL_law := hb
  have hown : s.vm.findClass RL = some m.cls := hown
  have htsL : ∀ v ∈ wsL_law, v.before #[.ref b] s = true := fun v h => hts v (wsL_law_in v h)
  have hA : ∀ a : Nat, s.heap.size ≤ a → (fun a : Nat => s.heap.size ≤ a) a := fun _ h => h
  have hbA : ¬ (fun a : Nat => s.heap.size ≤ a) b := Nat.not_le.mpr hbl
  obtain ⟨f1, f2, f3, f4, f5, f6, f7, f8, f9, f10, f11, f12, f13, f14, f15, f16, f17, f18⟩ := Rel_facts hR hB
  have f19 : AG z := f16.ag
  have f20 : CZ z := f16.1
  obtain ⟨a1, e1⟩ : ∃ v : Int, (xs (i + 1).toNat).toInt = v := ⟨_, rfl⟩
  have r1 : rg a1 := by rw [← e1]; exact iI_rg _
  refine lv_aload_n hx hb dL_law_656 rfl (lv_at hl 2 rfl) ?_
  refine lv_aload_n hx hb dL_law_657 rfl (lv_at hl 3 rfl) ?_
  refine lv_iload_n hx hb dL_law_658 rfl (lv_at hl 0 rfl) ?_
  refine lv_iconst (v := iI 1) hx hb dL_law_659 (by decide) ?_
  refine z_iadd hx hb dL_law_660 ?_
  refine z_sld hx hb hX hbl hbA hS e1 (by omega) (by omega) (by omega) dL_law_661 ?_
  refine z_callV (w := wN E q nq sa ha un svd sg le hv sv jb jr lf jf rd vr G) (wr := wM E qm z pa sl msv sp pd od pm ty om st wr) (ci := 3) (qk := 0) (As := [.int (iI a1)]) (rest := []) hx hb hml hown htsL hK hA hl.1 hP hD hS (c_X3_save l E q nq sa ha un svd sg le hv sv jb jr lf jf rd vr G a1 (by first | assumption | omega) (by first | assumption | omega) (by first | assumption | omega) (by first | assumption | omega)) gL_law_X3_save rfl ndX3_save ⟨Nat.le_of_ble_eq_true rfl, Nat.le_of_ble_eq_true rfl⟩ rfl rfl rfl rfl rfl (Nat.le_of_ble_eq_true rfl) dL_law_662 ⟨Nat.le_of_ble_eq_true rfl, Nat.le_of_ble_eq_true rfl⟩ (fun x u H locs hpost hP hD hS => ?_)
  subst x
  refine lv_aload_n hx hb dL_law_665 rfl (lv_at hl 1 rfl) ?_
  refine lv_aload_n hx hb dL_law_666 rfl (lv_at hl 3 rfl) ?_
  refine lv_iload_n hx hb dL_law_667 rfl (lv_at hl 0 rfl) ?_
  refine lv_iconst (v := iI 1) hx hb dL_law_668 (by decide) ?_
  refine z_iadd hx hb dL_law_669 ?_
  refine z_sld hx hb hX hbl hbA hS e1 (by omega) (by omega) (by omega) dL_law_670 ?_
  refine z_callL (w := wM E qm z pa sl msv sp pd od pm ty om st wr) (ci := 4) (qk := 0) (As := [.int (iI a1)]) (rest := [.int (iI _)]) hx hb hml hown htsL hK hA hl.1 hP hD hS (c_X4_save l E qm z pa sl msv sp pd od pm ty om st wr a1 (by first | assumption | omega) (by first | assumption | omega) (by first | assumption | omega)) gL_law_X4_save rfl ndX4_save ⟨Nat.le_of_ble_eq_true rfl, Nat.le_of_ble_eq_true rfl⟩ rfl rfl rfl rfl rfl (Nat.le_of_ble_eq_true rfl) dL_law_671 ⟨Nat.le_of_ble_eq_true rfl, Nat.le_of_ble_eq_true rfl⟩ (fun x u H locs hpost hP hD hS => ?_)
  subst x
  have hans := L_save (sn := a1) hR (by omega)
  refine lv_icmp_eq (tgt := 702) hx hb dL_law_674 (by decide) (fun _ => ?_) (fun q1 => absurd (by rw [hans.1]) q1)
  exact kk _ _ _ _ _ _ _ _ _ _ _ _ _ _ _ _ _ _ _ _ _ _ _ _ _ _ H locs hans.2 hP hD hS
set_option maxRecDepth 100000 in
set_option maxHeartbeats 400000 in
theorem law_restore (C0 : lw_At p s m meth c b L xs) (hK : va_K E.1 vwCl (zT E) s) (hB : B ≤ 90000000) {i : Int} (hi : 0 ≤ i ∧ i + 4 ≤ L) (hL : L ≤ 2048) (hl : lv_has ls 4 [(3, .int (iI i)), (2, .ref (qm 0)), (1, .ref (q 0)), (0, .ref b)]) (kk : lawK p l e s m below meth c b E q nq qm sa Q ls (B + 100) 702) : lawK p l e s m below meth c b E q nq qm sa Q ls B 679 := by
  intro ha un svd sg le hv sv jb jr lf jf rd vr G z pa sl msv sp pd od pm ty om st wr H locs hR hP hD hS
  obtain ⟨hx, hb, hr, hml, hown, hts, hX, hbl, hlocks, hgv⟩ := id C0
  have hb : c.code = cL_law := hb
  have hown : s.vm.findClass RL = some m.cls := hown
  have htsL : ∀ v ∈ wsL_law, v.before #[.ref b] s = true := fun v h => hts v (wsL_law_in v h)
  have hA : ∀ a : Nat, s.heap.size ≤ a → (fun a : Nat => s.heap.size ≤ a) a := fun _ h => h
  have hbA : ¬ (fun a : Nat => s.heap.size ≤ a) b := Nat.not_le.mpr hbl
  obtain ⟨f1, f2, f3, f4, f5, f6, f7, f8, f9, f10, f11, f12, f13, f14, f15, f16, f17, f18⟩ := Rel_facts hR hB
  have f19 : AG z := f16.ag
  have f20 : CZ z := f16.1
  obtain ⟨a1, e1⟩ : ∃ v : Int, (xs (i + 1).toNat).toInt = v := ⟨_, rfl⟩
  have r1 : rg a1 := by rw [← e1]; exact iI_rg _
  refine lv_aload_n hx hb dL_law_679 rfl (lv_at hl 2 rfl) ?_
  refine lv_aload_n hx hb dL_law_680 rfl (lv_at hl 3 rfl) ?_
  refine lv_iload_n hx hb dL_law_681 rfl (lv_at hl 0 rfl) ?_
  refine lv_iconst (v := iI 1) hx hb dL_law_682 (by decide) ?_
  refine z_iadd hx hb dL_law_683 ?_
  refine z_sld hx hb hX hbl hbA hS e1 (by omega) (by omega) (by omega) dL_law_684 ?_
  refine z_callV (w := wN E q nq sa ha un svd sg le hv sv jb jr lf jf rd vr G) (wr := wM E qm z pa sl msv sp pd od pm ty om st wr) (ci := 3) (qk := 0) (As := [.int (iI a1)]) (rest := []) hx hb hml hown htsL hK hA hl.1 hP hD hS (c_X3_restore l E q nq sa ha un svd sg le hv sv jb jr lf jf rd vr G a1 (by first | assumption | omega) (by first | assumption | omega) (by first | assumption | omega) (by first | assumption | omega) (by first | assumption | omega)) gL_law_X3_restore rfl ndX3_restore ⟨Nat.le_of_ble_eq_true rfl, Nat.le_of_ble_eq_true rfl⟩ rfl rfl rfl rfl rfl (Nat.le_of_ble_eq_true rfl) dL_law_685 ⟨Nat.le_of_ble_eq_true rfl, Nat.le_of_ble_eq_true rfl⟩ (fun x u H locs hpost hP hD hS => ?_)
  subst x
  refine lv_aload_n hx hb dL_law_688 rfl (lv_at hl 1 rfl) ?_
  refine lv_aload_n hx hb dL_law_689 rfl (lv_at hl 3 rfl) ?_
  refine lv_iload_n hx hb dL_law_690 rfl (lv_at hl 0 rfl) ?_
  refine lv_iconst (v := iI 1) hx hb dL_law_691 (by decide) ?_
  refine z_iadd hx hb dL_law_692 ?_
  refine z_sld hx hb hX hbl hbA hS e1 (by omega) (by omega) (by omega) dL_law_693 ?_
  refine z_callL (w := wM E qm z pa sl msv sp pd od pm ty om st wr) (ci := 4) (qk := 0) (As := [.int (iI a1)]) (rest := [.int (iI _)]) hx hb hml hown htsL hK hA hl.1 hP hD hS (c_X4_restore l E qm z pa sl msv sp pd od pm ty om st wr a1 (by first | assumption | omega) (by first | assumption | omega) (by first | assumption | omega) (fun c1 c2 => by have hq := (hR.2.2.1.2.2 a1 c1.1 c1.2); have hq2 := ((hq.2 (by rw [hq.1]; exact c2)).row (z' := restZ z sl a1) (fun j u v => restZ_at ⟨u, v⟩)).mi (by omega); exact ⟨hq2.ag, hq2.1⟩)) gL_law_X4_restore rfl ndX4_restore ⟨Nat.le_of_ble_eq_true rfl, Nat.le_of_ble_eq_true rfl⟩ rfl rfl rfl rfl rfl (Nat.le_of_ble_eq_true rfl) dL_law_694 ⟨Nat.le_of_ble_eq_true rfl, Nat.le_of_ble_eq_true rfl⟩ (fun x u H locs hpost hP hD hS => ?_)
  subst x
  have hans := L_restore (sn := a1) hR (by omega)
  refine lv_icmp_eq (tgt := 702) hx hb dL_law_697 (by decide) (fun _ => ?_) (fun q1 => absurd (by rw [hans.1]) q1)
  exact kk _ _ _ _ _ _ _ _ _ _ _ _ _ _ _ _ _ _ _ _ _ _ _ _ _ _ H locs hans.2 hP hD hS
end
