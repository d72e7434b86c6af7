-- making objects and rows
def z0 : Int → Int := fun _ => 0
def zAO (U : State) : Prop := va_AO RX0 U ∧ va_AO RX2 U ∧ va_Nw (.methodLinkNest RX2 37 yX0_init "GenerationNames") U ∧ va_Nw (.methodLinkNest RX3 33 yX1_init "GenerationNames") U
theorem zAO.same {u U : State} (hvm : u.vm = U.vm) (h : zAO u) : zAO U := ⟨h.1.moved (by rw [hvm]; exact Vm.Alike.refl _), h.2.1.moved (by rw [hvm]; exact Vm.Alike.refl _), va_Nw.same rfl hvm h.2.2.1, va_Nw.same rfl hvm h.2.2.2⟩
theorem zAO.warm {s U : State} (hW : s.WarmedH U.vm) (h : zAO s) : zAO U := ⟨h.1.moved hW.alike, h.2.1.moved hW.alike, va_Nw.warmM hW h.2.2.1, va_Nw.warmM hW h.2.2.2⟩
def zI (l : Launch) (E : zE) (y : MethodName) (ws : List Cond) (fr lc mc ms ci : Nat) (fs : List Value) {S : Type} (h : S → Nat) (w : S → va_W) : Prop :=
  ∀ (h0 sz : Nat), Met l y ws ({ frames := fr, cells := mc, slots := ms, locals := lc } : Room) (va_Pc [.ref h0] (fun U => zPre E [(h0, .inr (ci, fs))] sz U ∧ zAO U)) (zQv E (va_A [(h0, .inr (ci, fs))] sz) (fun u : S => h u = h0) w) mc ms (va_A [(h0, .inr (ci, fs))] sz)
theorem zIPre_blind {E : zE} {w : va_W} {sz : Nat} {as : List Value} : FrameBlind (va_Pc as (fun U => zPre E w sz U ∧ zAO U)) := by
  intro a U g mk q
  obtain ⟨q0, ⟨q1, qP, qK, qD⟩, qA⟩ := q
  exact ⟨q0, ⟨q1, qP, va_K.moved (u := U) (U := U.calling g mk a) (Vm.Alike.refl U.vm) qK, qD⟩, zAO.same (u := U) (U := U.calling g mk a) rfl qA⟩
theorem zI_of {l : Launch} {E : zE} {y : MethodName} {ws ws' : List Cond} {fr lc mc ms ci : Nat} {fs : List Value} {S : Type} {h : S → Nat} {w : S → va_W} {cc : ByteArray} {maxL : Nat}
    (hy : plainName y.cls = true) (hw : ws = Cond.code y cc maxL none :: ws') (hn : 1 ≤ maxL) (hyn : y.name = "<init>")
    (body : ∀ (h0 : Nat) (p : Program) (e : Env) (s : State) (m : MethodId) (below : List Frame) (meth : Method) (c : Code) (ls : Array Slot) (A : Nat → Prop), p.tables.exec = Jvm.exec → c.code = cc → meth.sig.returnType = none → (∀ v ∈ ws, v.before #[.ref h0] s = true) → s.vm.findClass y.cls = some m.cls → meth.locks = false → meth.name = "<init>" → c.maxLocals = maxL →
      va_K E.1 vwCl (zT E) s → zAO s → (∀ q : Nat, s.heap.size ≤ q → A q) → va_S A s.heap s.heap [] → va_P E.1 vwCl [(h0, .inr (ci, fs))] s.heap → va_D A [(h0, .inr (ci, fs))] → lv_has ls maxL [(0, .ref h0)] →
      W p l e ({ frames := fr, cells := mc, slots := ms, locals := lc } : Room) s m #[.ref h0] below meth c s.heap [] 0 0 (MQ below (zQv E A (fun u : S => h u = h0) w) #[.ref h0] s mc ms A) (F0 m 0 ls [])) : zI l E y ws fr lc mc ms ci fs h w := by
  intro h0 sz
  refine Met.ofW (cc := cc) (maxL := maxL) (ret := none) hy hw ?_
  intro p e s m args below meth c s₁ B hml hv
  obtain ⟨rfl, ⟨hsz, hP, hK, hD0⟩, hAO⟩ := hv
  have hx := B.exec
  have hb := B.bytes
  have hr := B.returns
  have hts := atoms_spec (ws := ws) B.pre
  have hown : s.vm.findClass y.cls = some m.cls := findClass_of_methodNamed B.named
  have hlocks := B.notSynchronized
  have hin : meth.name = "<init>" := (name_of_methodNamed B.named B.method).1.trans hyn
  subst hsz
  have hD := hD0.self (sz := s.heap.size)
  rw [lg_entry_eq]
  exact body h0 p e s m below meth c _ (va_A [(h0, .inr (ci, fs))] s.heap.size) hx hb hr hts hown hlocks hin hml hK hAO (fun q h => Or.inr h) va_S.rf hP hD (lv_entry [.ref h0] hn)
section
variable {p : Program} {l : Launch} {e : Env} {R : Room} {s : State} {m : MethodId} {args : Array Value} {below : List Frame} {meth : Method} {c : Code} {H : Heap} {locs : List Loc} {cells slots : Nat} {Q : State → Prop}
variable {cc : ByteArray} {pc : Nat} {ls : Array Slot} {rest : List Value} {E : zE} {A : Nat → Prop} {H0 : Heap} {D : va_G} {cl : List vw_C} {tys : List (ClassId × FieldType)} {ws : va_W} {a : Nat}
theorem z_newa (hx : p.tables.exec = Jvm.exec) (hb : c.code = cc) {atype : ArrayType} {ty : FieldType} (harr : (Cond.arrayClass (newarray.typeOf atype)).before args s = true) (hty : newarray.typeOf atype = ty) (hra : ∀ (U : State) (k : ClassId), va_RA U k ty → U.vm.findClass ("[" ++ ty.toString) = some k) (hK : va_K D cl tys s) (t0 : Nat) {cI : ClassId} (ht : tys[t0]? = some (cI, ty)) (hP : va_P D cl ws H) (hD : va_D A ws) (hS : va_S A H0 H locs) (hA : ∀ q, H0.size ≤ q → A q)
    {x : Int} {n' : Nat} (h0 : 0 ≤ x) (hx2 : x < 2147483648) (hN : x.toNat = n') (hdv : defaultValue ty = .int 0) (hbytes : n' * componentBytes ty ≤ 536870912) (hcells : cells + 1 ≤ R.cells) (hslots : slots + n' ≤ R.slots) (hdg : decode cc pc = .ok (.newarray atype, 2))
    (kk : ∀ (q : Nat) (H1 : Heap), va_P D cl (ws ++ [(q, .inl (cI, n', .inl (fun j : Nat => iI (z0 j))))]) H1 → va_D A (ws ++ [(q, .inl (cI, n', .inl (fun j : Nat => iI (z0 j))))]) → va_S A H0 H1 locs → W p l e R s m args below meth c H1 locs (cells + 1) (slots + n') Q (F0 m (pc + 2) ls (.ref q :: rest))) : W p l e R s m args below meth c H locs cells slots Q (F0 m pc ls (.int (iI x) :: rest)) := by
  refine va_newa (a0 := (n', .inl (fun j : Nat => iI (z0 j)))) hx hb harr hty hK hP hD hS hA (fun cA => ?_) (fun q => ?_) (by rw [iI_ix ⟨by omega, hx2⟩, hN]) hbytes hcells hslots hdg (fun q cA H1 hKx hP1 hD1 hS1 => ?_)
  · rw [hdv]
    rfl
  · rw [iI_0, iI_lt ⟨by omega, hx2⟩ ⟨by omega, by omega⟩] at q
    omega
  · have h1 := hra s _ (hKx.2 tys.length (cA, ty) (by rw [List.getElem?_append_right (Nat.le_refl _), Nat.sub_self]; rfl)).2
    have h2 := hra s _ (hK.2 t0 _ ht).2
    have hc : cA = cI := Option.some.inj (h1.symm.trans h2)
    subst hc
    exact kk q H1 hP1 hD1 hS1
theorem z_newq (hx : p.tables.exec = Jvm.exec) (hb : c.code = cc) {own C : String} {index : Nat} (hown : s.vm.findClass own = some m.cls) (hclink : (Cond.classLink own index C).before args s = true) (hover : va_AO C s) (hK : va_K D cl tys s) (t0 : Nat) {cI : ClassId} (ht : tys[t0]? = some (cI, .object C)) (hP : va_P D cl ws H) (hD : va_D A ws) (hS : va_S A H0 H locs) (hA : ∀ q, H0.size ≤ q → A q)
    {x : Int} {n' : Nat} (h0 : 0 ≤ x) (hx2 : x < 2147483648) (hN : x.toNat = n') (hbytes : n' * 4 ≤ 536870912) (hcells : cells + 1 ≤ R.cells) (hslots : slots + n' ≤ R.slots) (hdg : decode cc pc = .ok (.anewarray index, 3))
    (kk : ∀ (q : Nat) (H1 : Heap), va_P D cl (ws ++ [(q, .inl (cI, n', .inr (.inr (.inr (.inr (fun _ => none))))))]) H1 → va_D A (ws ++ [(q, .inl (cI, n', .inr (.inr (.inr (.inr (fun _ => none))))))]) → va_S A H0 H1 locs → W p l e R s m args below meth c H1 locs (cells + 1) (slots + n') Q (F0 m (pc + 3) ls (.ref q :: rest))) : W p l e R s m args below meth c H locs cells slots Q (F0 m pc ls (.int (iI x) :: rest)) := by
  refine va_newq hx hb hown hclink hover hK hP hD hS hA (fun q => ?_) (by rw [iI_ix ⟨by omega, hx2⟩, hN]) hbytes hcells hslots hdg (fun q cA H1 hKx hP1 hD1 hS1 => ?_)
  · rw [iI_0, iI_lt ⟨by omega, hx2⟩ ⟨by omega, by omega⟩] at q
    omega
  · obtain ⟨-, -, -, -, -, h1⟩ := (hKx.2 tys.length (cA, .object C) (by rw [List.getElem?_append_right (Nat.le_refl _), Nat.sub_self]; rfl)).2
    obtain ⟨-, -, -, -, -, h2⟩ := (hK.2 t0 _ ht).2
    have hc : cA = cI := Option.some.inj (h1.symm.trans h2)
    subst hc
    exact kk q H1 hP1 hD1 hS1
/-- new, dup, the constructor -/
theorem z_make {own C : String} {T : u_T} {N ci ix iy fr lc mc ms nL maxL : Nat} {bytes : ByteArray} {y : MethodName} {Ts wz ws' : List Cond} {W0 : va_W} {S : Type} {h : S → Nat} {w : S → va_W} {fs : List Value}
    (hx : p.tables.exec = Jvm.exec) (hb : c.code = cc) (hml : c.maxLocals = nL) (hown : s.vm.findClass own = some m.cls) (hts : ∀ v ∈ Ts, v.before args s = true) (hin : ∀ v ∈ u_ws C T N, v ∈ Ts) (ty : Nat → FieldType) (hty : ∀ k, k < N → parseFieldDescriptor (T k).2.2.1 = some (ty k)) (hcl : (Cond.classLink own ix C).before args s = true) (hinst : (Cond.instantiable C N).before args s = true) (hini : (Cond.initialized C).before args s = true) (hlk : (Cond.methodLink own iy y).before args s = true) (him : (Cond.instanceMethod y).before args s = true)
    (hK : va_K E.1 vwCl (zT E) s) (hAO : zAO s) (hA : ∀ q : Nat, H0.size ≤ q → A q) (hls : ls.size = nL) (hP : va_P E.1 vwCl W0 H) (hD : va_D A W0) (hS : va_S A H0 H locs)
    (hc : vwCl[ci]? = some (C, T, N)) (hfs : ∀ j, j < N → defaultValue (ty j) = vp_V fs j) (hI : zI l E y wz fr lc mc ms ci fs h w) (hG : GoodIn Ts wz) (hw : wz = Cond.code y bytes maxL none :: ws') (hy1 : y.name = "<init>") (hyc : y.cls = C)
    (hd : y.cls ≠ "java/lang/invoke/MethodHandle" ∧ y.cls ≠ "java/lang/invoke/VarHandle" ∧ (parseMethodDescriptor y.desc).map (fun d => d.parameters.length) = some 0)
    (hR : fr + 1 ≤ R.frames ∧ 8 + (maxL + 11) + lc ≤ R.locals) (hroom : ∀ q : Nat, ((Value.ref q :: rest).map fun v => v.category).sum ≤ 8) (hc1 : cells + 1 + mc ≤ R.cells) (hs1 : slots + N + ms ≤ R.slots)
    (hnew : decode cc pc = .ok (.new ix, 3)) (hdup : decode cc (pc + 3) = .ok (.dup, 1)) (hinv : decode cc (pc + 3 + 1) = .ok (.invokespecial iy, 3))
    (kk : ∀ (u : S) (H1 : Heap) (locs1 : List Loc), va_P E.1 vwCl (w u ++ W0) H1 → va_D A (w u ++ W0) → va_S A H0 H1 locs1 → W p l e R s m args below meth c H1 locs1 (cells + 1 + mc) (slots + N + ms) Q (F0 m (pc + 3 + 1 + 3) ls (.ref (h u) :: rest))) :
    W p l e R s m args below meth c H locs cells slots Q (F0 m pc ls rest) := by
  refine va_new (ci := ci) hx hb hts hin ty hty hown hcl hinst hini hK hP hD hS hA hc hfs (by omega) (by omega) hnew (fun q0 H2 hP2 hD2 hS2 => ?_)
  refine lv_dup hx hb hdup rfl ?_
  have hP3 : va_P E.1 vwCl ([(q0, .inr (ci, fs))] ++ W0) H2 := zP_perm hP2 List.perm_append_comm
  have hD3 : va_D A ([(q0, .inr (ci, fs))] ++ W0) := zD_perm hD2 List.perm_append_comm
  have hFc : ∀ q, va_A [(q0, .inr (ci, fs))] H2.size q → A q := fun q h => by
    rcases h with ⟨k, e, h⟩ | h
    · exact (zD_iff.mp hD3).2 (q, e) (List.mem_append_left _ (List.mem_of_getElem? h))
    · exact hA q (Nat.le_trans hS2.1 h)
  have hPc := zP_left hP3
  have hDc := (zD_app.mp hD3).1
  subst hyc
  refine va_callv (mc := mc) (ms := ms) (va_runI (As := []) (rest := .ref q0 :: rest) ⟨hx, hb, hml, hown, hts⟩ (hI q0 H2.size) (cwI 0 hts hG hw rfl rfl hini hlk him hy1 hd hR) ⟨zIPre_blind, fun U hU hW => ⟨rfl, ⟨by rw [hU], by rw [hU]; exact hPc, va_K.moved hW.alike hK, hDc.weaken (fun _ _ _ _ => trivial)⟩, zAO.warm hW hAO⟩⟩ rfl rfl hls rfl (lv_room (hroom q0)) hinv ⟨hc1, hs1⟩) hS2 (fun q _ h => hFc q h) hFc (fun u t H1 locs1 ht hvm hp hB hz1 hk1 hS1 => ?_)
  obtain ⟨hP1, hK1, hD1⟩ := hB
  rw [ht] at hP1
  obtain ⟨hP4, hD4⟩ := z_join hP3 hD3 hk1 hFc hP1 hD1
  subst hp
  exact kk u H1 locs1 hP4 hD4 hS1
/-- new, dup, the private constructor of a nest mate -/
theorem z_makeN {host : String} {own C : String} {T : u_T} {N ci ix iy fr lc mc ms nL maxL : Nat} {bytes : ByteArray} {y : MethodName} {Ts wz ws' : List Cond} {W0 : va_W} {S : Type} {h : S → Nat} {w : S → va_W} {fs : List Value}
    (hx : p.tables.exec = Jvm.exec) (hb : c.code = cc) (hml : c.maxLocals = nL) (hown : s.vm.findClass own = some m.cls) (hts : ∀ v ∈ Ts, v.before args s = true) (hin : ∀ v ∈ u_ws C T N, v ∈ Ts) (ty : Nat → FieldType) (hty : ∀ k, k < N → parseFieldDescriptor (T k).2.2.1 = some (ty k)) (hcl : (Cond.classLink own ix C).before args s = true) (hinst : (Cond.instantiable C N).before args s = true) (hini : (Cond.initialized C).before args s = true) (hlk : va_Nw (.methodLinkNest own iy y host) s) (him : (Cond.instanceMethod y).before args s = true)
    (hK : va_K E.1 vwCl (zT E) s) (hAO : zAO s) (hA : ∀ q : Nat, H0.size ≤ q → A q) (hls : ls.size = nL) (hP : va_P E.1 vwCl W0 H) (hD : va_D A W0) (hS : va_S A H0 H locs)
    (hc : vwCl[ci]? = some (C, T, N)) (hfs : ∀ j, j < N → defaultValue (ty j) = vp_V fs j) (hI : zI l E y wz fr lc mc ms ci fs h w) (hG : GoodIn Ts wz) (hw : wz = Cond.code y bytes maxL none :: ws') (hy1 : y.name = "<init>") (hyc : y.cls = C)
    (hd : y.cls ≠ "java/lang/invoke/MethodHandle" ∧ y.cls ≠ "java/lang/invoke/VarHandle" ∧ (parseMethodDescriptor y.desc).map (fun d => d.parameters.length) = some 0)
    (hR : fr + 1 ≤ R.frames ∧ 8 + (maxL + 11) + lc ≤ R.locals) (hroom : ∀ q : Nat, ((Value.ref q :: rest).map fun v => v.category).sum ≤ 8) (hc1 : cells + 1 + mc ≤ R.cells) (hs1 : slots + N + ms ≤ R.slots)
    (hnew : decode cc pc = .ok (.new ix, 3)) (hdup : decode cc (pc + 3) = .ok (.dup, 1)) (hinv : decode cc (pc + 3 + 1) = .ok (.invokespecial iy, 3))
    (kk : ∀ (u : S) (H1 : Heap) (locs1 : List Loc), va_P E.1 vwCl (w u ++ W0) H1 → va_D A (w u ++ W0) → va_S A H0 H1 locs1 → W p l e R s m args below meth c H1 locs1 (cells + 1 + mc) (slots + N + ms) Q (F0 m (pc + 3 + 1 + 3) ls (.ref (h u) :: rest))) :
    W p l e R s m args below meth c H locs cells slots Q (F0 m pc ls rest) := by
  refine va_new (ci := ci) hx hb hts hin ty hty hown hcl hinst hini hK hP hD hS hA hc hfs (by omega) (by omega) hnew (fun q0 H2 hP2 hD2 hS2 => ?_)
  refine lv_dup hx hb hdup rfl ?_
  have hP3 : va_P E.1 vwCl ([(q0, .inr (ci, fs))] ++ W0) H2 := zP_perm hP2 List.perm_append_comm
  have hD3 : va_D A ([(q0, .inr (ci, fs))] ++ W0) := zD_perm hD2 List.perm_append_comm
  have hFc : ∀ q, va_A [(q0, .inr (ci, fs))] H2.size q → A q := fun q h => by
    rcases h with ⟨k, e, h⟩ | h
    · exact (zD_iff.mp hD3).2 (q, e) (List.mem_append_left _ (List.mem_of_getElem? h))
    · exact hA q (Nat.le_trans hS2.1 h)
  have hPc := zP_left hP3
  have hDc := (zD_app.mp hD3).1
  subst hyc
  refine va_callv (mc := mc) (ms := ms) (va_runIN (As := []) (rest := .ref q0 :: rest) ⟨hx, hb, hml, hown, hts⟩ (hI q0 H2.size) ⟨va_cnB 0 hts hG hw rfl rfl hlk hini hd hR, hy1, him⟩ ⟨zIPre_blind, fun U hU hW => ⟨rfl, ⟨by rw [hU], by rw [hU]; exact hPc, va_K.moved hW.alike hK, hDc.weaken (fun _ _ _ _ => trivial)⟩, zAO.warm hW hAO⟩⟩ rfl rfl hls rfl (lv_room (hroom q0)) hinv ⟨hc1, hs1⟩) hS2 (fun q _ h => hFc q h) hFc (fun u t H1 locs1 ht hvm hp hB hz1 hk1 hS1 => ?_)
  obtain ⟨hP1, hK1, hD1⟩ := hB
  rw [ht] at hP1
  obtain ⟨hP4, hD4⟩ := z_join hP3 hD3 hk1 hFc hP1 hD1
  subst hp
  exact kk u H1 locs1 hP4 hD4 hS1
end
theorem pm_end {L R x : va_W} : ((L ++ R) ++ x).Perm ((L ++ x) ++ R) := by
  rw [List.append_assoc, List.append_assoc]
  exact List.Perm.append_left _ List.perm_append_comm
theorem pm_mk {L R x : va_W} : (x ++ (L ++ R)).Perm (L ++ (x ++ R)) := List.perm_append_comm_assoc _ _ _
theorem pm_mkr {L R x : va_W} : (x ++ (L ++ R)).Perm (L ++ (R ++ x)) := (List.perm_append_comm_assoc _ _ _).trans (List.Perm.append_left _ List.perm_append_comm)
/-- a row of objects that is the same where it is seen -/
theorem zP_row {D : va_G} {cl : List vw_C} {a : Nat} {cA : ClassId} {n : Nat} {f g : Nat → Option Nat} {W0 : va_W} {H : Heap} (hfg : ∀ j, j < n → f j = g j) (h : va_P D cl ((a, .inl (cA, n, .inr (.inr (.inr (.inr f))))) :: W0) H) : va_P D cl ((a, .inl (cA, n, .inr (.inr (.inr (.inr g))))) :: W0) H := by
  have e : vp_cell cA (n, .inr (.inr (.inr (.inr f)))) = vp_cell cA (n, .inr (.inr (.inr (.inr g)))) := by
    show arrV cA n (fun j => va_rf (f j)) = arrV cA n (fun j => va_rf (g j))
    unfold arrV
    congr 1
    congr 1
    funext j
    show va_rf (f j.val) = va_rf (g j.val)
    rw [hfg j.val j.isLt]
  rw [zP_iff] at h ⊢
  intro q hq
  rcases List.mem_cons.mp hq with rfl | hq
  · have h1 := h _ (List.mem_cons_self)
    show H[a]? = some (vp_cell cA (n, .inr (.inr (.inr (.inr g)))))
    rw [← e]
    exact h1
  · exact h q (List.mem_cons_of_mem _ hq)
theorem zD_row {A : Nat → Prop} {a : Nat} {x y : va_E} {W0 : va_W} (h : va_D A ((a, x) :: W0)) : va_D A ((a, y) :: W0) := by
  rw [zD_iff] at h ⊢
  refine ⟨h.1, fun q hq => ?_⟩
  rcases List.mem_cons.mp hq with rfl | hq
  · exact h.2 (a, x) List.mem_cons_self
  · exact h.2 q (List.mem_cons_of_mem _ hq)

def X0i : zGr := mkG 3 0 0 0 0 0 0 z0 z0 z0
set_option maxRecDepth 100000 in
set_option maxHeartbeats 400000 in
/-- Group() -/
theorem c_X0_init (l : Launch) (E : zE) : zI l E yX0_init wsX0_init 1 40 3 24 0 [.int (iI 0), .int (iI 0), .int (iI 0), .int (iI 0), .int (iI 0), .int (iI 0), .int (iI 0), .null, .null, .null] (fun q : Nat → Nat => q 0) (fun q : Nat → Nat => wX E q X0i) := by
  refine zI_of (cc := cX0_init) (maxL := 1) (by decide) rfl (Nat.le_of_ble_eq_true rfl) rfl ?_
  intro h0 p e s m below meth c ls A hx hb hr hts hown hlocks hin hml hK hAO hA hS hP hD hl
  have hown : s.vm.findClass RX0 = some m.cls := hown
  have hinX0 : ∀ v ∈ u_ws RX0 TX0 10, v ∈ wsX0_init := by decide +kernel
  refine lv_aload_n hx hb dX0_init_0 rfl (lv_at hl 0 rfl) ?_
  refine W.objInit hx hb hown (hts (.methodLink RX0 3 objectInit) (by decide +kernel)) (hts (.instanceMethod objectInit) (by decide +kernel)) (hts (.code objectInit ⟨#[0xb1]⟩ 1 none) (by decide +kernel)) rfl (by rw [hml]; exact hl.1) rfl dX0_init_1 (Nat.le_of_ble_eq_true rfl) (Nat.le_of_ble_eq_true rfl) ?_
  refine W.eq (g2 := F0 m 4 ls []) rfl ?_
  refine lv_aload_n hx hb dX0_init_4 rfl (lv_at hl 0 rfl) ?_
  refine lv_iconst (v := iI 3) hx hb dX0_init_5 (by decide) ?_
  refine va_put (D := E.1) (cl := vwCl) (ci := 0) (v := .int (iI 3)) (ty := tyX0 0) (C := RX0) (T := TX0) (N := 10) hx hb hts hinX0 tyX0 tyX0_ok nmX0 hown hK hP hD hS 0 rfl rfl 0 (by decide) (hts (.fieldLink RX0 9 "GenerationNames$Group" "keep" "I") (by decide +kernel)) (fun _ h => h) rfl (tyX0_ok 0 (by decide)) rfl rfl (Nat.le_of_ble_eq_true rfl) dX0_init_6 (fun H locs hP hD hS => ?_)
  have hP : va_P E.1 vwCl [(h0, .inr (0, [.int (iI 3), .int (iI 0), .int (iI 0), .int (iI 0), .int (iI 0), .int (iI 0), .int (iI 0), .null, .null, .null]))] H := hP
  have hD : va_D A [(h0, .inr (0, [.int (iI 3), .int (iI 0), .int (iI 0), .int (iI 0), .int (iI 0), .int (iI 0), .int (iI 0), .null, .null, .null]))] := hD
  refine lv_aload_n hx hb dX0_init_9 rfl (lv_at hl 0 rfl) ?_
  refine lv_iconst (v := iI 0) hx hb dX0_init_10 (by decide) ?_
  refine va_put (D := E.1) (cl := vwCl) (ci := 0) (v := .int (iI 0)) (ty := tyX0 1) (C := RX0) (T := TX0) (N := 10) hx hb hts hinX0 tyX0 tyX0_ok nmX0 hown hK hP hD hS 0 rfl rfl 1 (by decide) (hts (.fieldLink RX0 15 "GenerationNames$Group" "newest" "I") (by decide +kernel)) (fun _ h => h) rfl (tyX0_ok 1 (by decide)) rfl rfl (Nat.le_of_ble_eq_true rfl) dX0_init_11 (fun H locs hP hD hS => ?_)
  have hP : va_P E.1 vwCl [(h0, .inr (0, [.int (iI 3), .int (iI 0), .int (iI 0), .int (iI 0), .int (iI 0), .int (iI 0), .int (iI 0), .null, .null, .null]))] H := hP
  have hD : va_D A [(h0, .inr (0, [.int (iI 3), .int (iI 0), .int (iI 0), .int (iI 0), .int (iI 0), .int (iI 0), .int (iI 0), .null, .null, .null]))] := hD
  refine lv_aload_n hx hb dX0_init_14 rfl (lv_at hl 0 rfl) ?_
  refine lv_iconst (v := iI 0) hx hb dX0_init_15 (by decide) ?_
  refine va_put (D := E.1) (cl := vwCl) (ci := 0) (v := .int (iI 0)) (ty := tyX0 2) (C := RX0) (T := TX0) (N := 10) hx hb hts hinX0 tyX0 tyX0_ok nmX0 hown hK hP hD hS 0 rfl rfl 2 (by decide) (hts (.fieldLink RX0 18 "GenerationNames$Group" "size" "I") (by decide +kernel)) (fun _ h => h) rfl (tyX0_ok 2 (by decide)) rfl rfl (Nat.le_of_ble_eq_true rfl) dX0_init_16 (fun H locs hP hD hS => ?_)
  have hP : va_P E.1 vwCl [(h0, .inr (0, [.int (iI 3), .int (iI 0), .int (iI 0), .int (iI 0), .int (iI 0), .int (iI 0), .int (iI 0), .null, .null, .null]))] H := hP
  have hD : va_D A [(h0, .inr (0, [.int (iI 3), .int (iI 0), .int (iI 0), .int (iI 0), .int (iI 0), .int (iI 0), .int (iI 0), .null, .null, .null]))] := hD
  refine lv_aload_n hx hb dX0_init_19 rfl (lv_at hl 0 rfl) ?_
  refine lv_iconst (v := iI 0) hx hb dX0_init_20 (by decide) ?_
  refine va_put (D := E.1) (cl := vwCl) (ci := 0) (v := .int (iI 0)) (ty := tyX0 3) (C := RX0) (T := TX0) (N := 10) hx hb hts hinX0 tyX0 tyX0_ok nmX0 hown hK hP hD hS 0 rfl rfl 3 (by decide) (hts (.fieldLink RX0 21 "GenerationNames$Group" "rolledOff" "I") (by decide +kernel)) (fun _ h => h) rfl (tyX0_ok 3 (by decide)) rfl rfl (Nat.le_of_ble_eq_true rfl) dX0_init_21 (fun H locs hP hD hS => ?_)
  have hP : va_P E.1 vwCl [(h0, .inr (0, [.int (iI 3), .int (iI 0), .int (iI 0), .int (iI 0), .int (iI 0), .int (iI 0), .int (iI 0), .null, .null, .null]))] H := hP
  have hD : va_D A [(h0, .inr (0, [.int (iI 3), .int (iI 0), .int (iI 0), .int (iI 0), .int (iI 0), .int (iI 0), .int (iI 0), .null, .null, .null]))] := hD
  refine lv_aload_n hx hb dX0_init_24 rfl (lv_at hl 0 rfl) ?_
  refine lv_iconst (v := iI 0) hx hb dX0_init_25 (by decide) ?_
  refine va_put (D := E.1) (cl := vwCl) (ci := 0) (v := .int (iI 0)) (ty := tyX0 4) (C := RX0) (T := TX0) (N := 10) hx hb hts hinX0 tyX0 tyX0_ok nmX0 hown hK hP hD hS 0 rfl rfl 4 (by decide) (hts (.fieldLink RX0 24 "GenerationNames$Group" "deleted" "I") (by decide +kernel)) (fun _ h => h) rfl (tyX0_ok 4 (by decide)) rfl rfl (Nat.le_of_ble_eq_true rfl) dX0_init_26 (fun H locs hP hD hS => ?_)
  have hP : va_P E.1 vwCl [(h0, .inr (0, [.int (iI 3), .int (iI 0), .int (iI 0), .int (iI 0), .int (iI 0), .int (iI 0), .int (iI 0), .null, .null, .null]))] H := hP
  have hD : va_D A [(h0, .inr (0, [.int (iI 3), .int (iI 0), .int (iI 0), .int (iI 0), .int (iI 0), .int (iI 0), .int (iI 0), .null, .null, .null]))] := hD
  refine lv_aload_n hx hb dX0_init_29 rfl (lv_at hl 0 rfl) ?_
  refine lv_iconst (v := iI 0) hx hb dX0_init_30 (by decide) ?_
  refine va_put (D := E.1) (cl := vwCl) (ci := 0) (v := .int (iI 0)) (ty := tyX0 5) (C := RX0) (T := TX0) (N := 10) hx hb hts hinX0 tyX0 tyX0_ok nmX0 hown hK hP hD hS 0 rfl rfl 5 (by decide) (hts (.fieldLink RX0 27 "GenerationNames$Group" "newestForJob" "I") (by decide +kernel)) (fun _ h => h) rfl (tyX0_ok 5 (by decide)) rfl rfl (Nat.le_of_ble_eq_true rfl) dX0_init_31 (fun H locs hP hD hS => ?_)
  have hP : va_P E.1 vwCl [(h0, .inr (0, [.int (iI 3), .int (iI 0), .int (iI 0), .int (iI 0), .int (iI 0), .int (iI 0), .int (iI 0), .null, .null, .null]))] H := hP
  have hD : va_D A [(h0, .inr (0, [.int (iI 3), .int (iI 0), .int (iI 0), .int (iI 0), .int (iI 0), .int (iI 0), .int (iI 0), .null, .null, .null]))] := hD
  refine lv_aload_n hx hb dX0_init_34 rfl (lv_at hl 0 rfl) ?_
  refine lv_iconst (v := iI 0) hx hb dX0_init_35 (by decide) ?_
  refine va_put (D := E.1) (cl := vwCl) (ci := 0) (v := .int (iI 0)) (ty := tyX0 6) (C := RX0) (T := TX0) (N := 10) hx hb hts hinX0 tyX0 tyX0_ok nmX0 hown hK hP hD hS 0 rfl rfl 6 (by decide) (hts (.fieldLink RX0 30 "GenerationNames$Group" "madeByJob" "I") (by decide +kernel)) (fun _ h => h) rfl (tyX0_ok 6 (by decide)) rfl rfl (Nat.le_of_ble_eq_true rfl) dX0_init_36 (fun H locs hP hD hS => ?_)
  have hP : va_P E.1 vwCl [(h0, .inr (0, [.int (iI 3), .int (iI 0), .int (iI 0), .int (iI 0), .int (iI 0), .int (iI 0), .int (iI 0), .null, .null, .null]))] H := hP
  have hD : va_D A [(h0, .inr (0, [.int (iI 3), .int (iI 0), .int (iI 0), .int (iI 0), .int (iI 0), .int (iI 0), .int (iI 0), .null, .null, .null]))] := hD
  refine lv_aload_n hx hb dX0_init_39 rfl (lv_at hl 0 rfl) ?_
  refine lv_bipush (v := iI 8) hx hb dX0_init_40 (by decide) ?_
  refine z_newa (atype := .int) (ty := .int) hx hb (hts (.arrayClass .int) (by decide +kernel)) rfl (fun _ _ h => h) hK 0 rfl hP hD hS hA (by omega) (by omega) rfl rfl (Nat.le_of_ble_eq_true rfl) (Nat.le_of_ble_eq_true rfl) (Nat.le_of_ble_eq_true rfl) dX0_init_42 (fun q1 H hP hD hS => ?_)
  have hP : va_P E.1 vwCl [(h0, .inr (0, [.int (iI 3), .int (iI 0), .int (iI 0), .int (iI 0), .int (iI 0), .int (iI 0), .int (iI 0), .null, .null, .null])), (q1, .inl (E.2 0, 8, .inl (fun j : Nat => iI (z0 j))))] H := hP
  have hD : va_D A [(h0, .inr (0, [.int (iI 3), .int (iI 0), .int (iI 0), .int (iI 0), .int (iI 0), .int (iI 0), .int (iI 0), .null, .null, .null])), (q1, .inl (E.2 0, 8, .inl (fun j : Nat => iI (z0 j))))] := hD
  refine W.widen (k := 1) (n := 8) (Nat.le_of_ble_eq_true rfl) (Nat.le_of_ble_eq_true rfl) ?_
  refine va_putF (D := E.1) (cl := vwCl) (ci := 0) (v := .ref q1) (ty := tyX0 7) (C := RX0) (T := TX0) (N := 10) hx hb hts hinX0 tyX0 tyX0_ok nmX0 hown hK hP hD hS 0 rfl rfl 7 (by decide) (hts (.fieldLink RX0 33 "GenerationNames$Group" "data" "[I") (by decide +kernel)) (fun _ h => h) rfl hin rfl (tyX0_ok 7 (by decide)) rfl rfl (Nat.le_of_ble_eq_true rfl) dX0_init_44 (fun H locs hP hD hS => ?_)
  have hP : va_P E.1 vwCl [(h0, .inr (0, [.int (iI 3), .int (iI 0), .int (iI 0), .int (iI 0), .int (iI 0), .int (iI 0), .int (iI 0), .ref q1, .null, .null])), (q1, .inl (E.2 0, 8, .inl (fun j : Nat => iI (z0 j))))] H := hP
  have hD : va_D A [(h0, .inr (0, [.int (iI 3), .int (iI 0), .int (iI 0), .int (iI 0), .int (iI 0), .int (iI 0), .int (iI 0), .ref q1, .null, .null])), (q1, .inl (E.2 0, 8, .inl (fun j : Nat => iI (z0 j))))] := hD
  refine lv_aload_n hx hb dX0_init_47 rfl (lv_at hl 0 rfl) ?_
  refine lv_bipush (v := iI 8) hx hb dX0_init_48 (by decide) ?_
  refine z_newa (atype := .int) (ty := .int) hx hb (hts (.arrayClass .int) (by decide +kernel)) rfl (fun _ _ h => h) hK 0 rfl hP hD hS hA (by omega) (by omega) rfl rfl (Nat.le_of_ble_eq_true rfl) (Nat.le_of_ble_eq_true rfl) (Nat.le_of_ble_eq_true rfl) dX0_init_50 (fun q2 H hP hD hS => ?_)
  have hP : va_P E.1 vwCl [(h0, .inr (0, [.int (iI 3), .int (iI 0), .int (iI 0), .int (iI 0), .int (iI 0), .int (iI 0), .int (iI 0), .ref q1, .null, .null])), (q1, .inl (E.2 0, 8, .inl (fun j : Nat => iI (z0 j)))), (q2, .inl (E.2 0, 8, .inl (fun j : Nat => iI (z0 j))))] H := hP
  have hD : va_D A [(h0, .inr (0, [.int (iI 3), .int (iI 0), .int (iI 0), .int (iI 0), .int (iI 0), .int (iI 0), .int (iI 0), .ref q1, .null, .null])), (q1, .inl (E.2 0, 8, .inl (fun j : Nat => iI (z0 j)))), (q2, .inl (E.2 0, 8, .inl (fun j : Nat => iI (z0 j))))] := hD
  refine W.widen (k := 2) (n := 16) (Nat.le_of_ble_eq_true rfl) (Nat.le_of_ble_eq_true rfl) ?_
  refine va_putF (D := E.1) (cl := vwCl) (ci := 0) (v := .ref q2) (ty := tyX0 8) (C := RX0) (T := TX0) (N := 10) hx hb hts hinX0 tyX0 tyX0_ok nmX0 hown hK hP hD hS 0 rfl rfl 8 (by decide) (hts (.fieldLink RX0 37 "GenerationNames$Group" "reads" "[I") (by decide +kernel)) (fun _ h => h) rfl hin rfl (tyX0_ok 8 (by decide)) rfl rfl (Nat.le_of_ble_eq_true rfl) dX0_init_52 (fun H locs hP hD hS => ?_)
  have hP : va_P E.1 vwCl [(h0, .inr (0, [.int (iI 3), .int (iI 0), .int (iI 0), .int (iI 0), .int (iI 0), .int (iI 0), .int (iI 0), .ref q1, .ref q2, .null])), (q1, .inl (E.2 0, 8, .inl (fun j : Nat => iI (z0 j)))), (q2, .inl (E.2 0, 8, .inl (fun j : Nat => iI (z0 j))))] H := hP
  have hD : va_D A [(h0, .inr (0, [.int (iI 3), .int (iI 0), .int (iI 0), .int (iI 0), .int (iI 0), .int (iI 0), .int (iI 0), .ref q1, .ref q2, .null])), (q1, .inl (E.2 0, 8, .inl (fun j : Nat => iI (z0 j)))), (q2, .inl (E.2 0, 8, .inl (fun j : Nat => iI (z0 j))))] := hD
  refine lv_aload_n hx hb dX0_init_55 rfl (lv_at hl 0 rfl) ?_
  refine lv_bipush (v := iI 8) hx hb dX0_init_56 (by decide) ?_
  refine z_newa (atype := .int) (ty := .int) hx hb (hts (.arrayClass .int) (by decide +kernel)) rfl (fun _ _ h => h) hK 0 rfl hP hD hS hA (by omega) (by omega) rfl rfl (Nat.le_of_ble_eq_true rfl) (Nat.le_of_ble_eq_true rfl) (Nat.le_of_ble_eq_true rfl) dX0_init_58 (fun q3 H hP hD hS => ?_)
  have hP : va_P E.1 vwCl [(h0, .inr (0, [.int (iI 3), .int (iI 0), .int (iI 0), .int (iI 0), .int (iI 0), .int (iI 0), .int (iI 0), .ref q1, .ref q2, .null])), (q1, .inl (E.2 0, 8, .inl (fun j : Nat => iI (z0 j)))), (q2, .inl (E.2 0, 8, .inl (fun j : Nat => iI (z0 j)))), (q3, .inl (E.2 0, 8, .inl (fun j : Nat => iI (z0 j))))] H := hP
  have hD : va_D A [(h0, .inr (0, [.int (iI 3), .int (iI 0), .int (iI 0), .int (iI 0), .int (iI 0), .int (iI 0), .int (iI 0), .ref q1, .ref q2, .null])), (q1, .inl (E.2 0, 8, .inl (fun j : Nat => iI (z0 j)))), (q2, .inl (E.2 0, 8, .inl (fun j : Nat => iI (z0 j)))), (q3, .inl (E.2 0, 8, .inl (fun j : Nat => iI (z0 j))))] := hD
  refine W.widen (k := 3) (n := 24) (Nat.le_of_ble_eq_true rfl) (Nat.le_of_ble_eq_true rfl) ?_
  refine va_putF (D := E.1) (cl := vwCl) (ci := 0) (v := .ref q3) (ty := tyX0 9) (C := RX0) (T := TX0) (N := 10) hx hb hts hinX0 tyX0 tyX0_ok nmX0 hown hK hP hD hS 0 rfl rfl 9 (by decide) (hts (.fieldLink RX0 40 "GenerationNames$Group" "jobs" "[I") (by decide +kernel)) (fun _ h => h) rfl hin rfl (tyX0_ok 9 (by decide)) rfl rfl (Nat.le_of_ble_eq_true rfl) dX0_init_60 (fun H locs hP hD hS => ?_)
  have hP : va_P E.1 vwCl [(h0, .inr (0, [.int (iI 3), .int (iI 0), .int (iI 0), .int (iI 0), .int (iI 0), .int (iI 0), .int (iI 0), .ref q1, .ref q2, .ref q3])), (q1, .inl (E.2 0, 8, .inl (fun j : Nat => iI (z0 j)))), (q2, .inl (E.2 0, 8, .inl (fun j : Nat => iI (z0 j)))), (q3, .inl (E.2 0, 8, .inl (fun j : Nat => iI (z0 j))))] H := hP
  have hD : va_D A [(h0, .inr (0, [.int (iI 3), .int (iI 0), .int (iI 0), .int (iI 0), .int (iI 0), .int (iI 0), .int (iI 0), .ref q1, .ref q2, .ref q3])), (q1, .inl (E.2 0, 8, .inl (fun j : Nat => iI (z0 j)))), (q2, .inl (E.2 0, 8, .inl (fun j : Nat => iI (z0 j)))), (q3, .inl (E.2 0, 8, .inl (fun j : Nat => iI (z0 j))))] := hD
  exact z_vret hx hb hr hlocks hK hS (fun j : Nat => if j = 0 then h0 else if j = 1 then q1 else if j = 2 then q2 else q3) rfl hP hD dX0_init_63
set_option maxRecDepth 100000 in
set_option maxHeartbeats 400000 in
/-- Pad() -/
theorem c_X1_init (l : Launch) (E : zE) : zI l E yX1_init wsX1_init 1 40 1 80 1 [.null, .int (iI 0)] (fun q : Nat → Nat => q 0) (fun q : Nat → Nat => wPd E q z0 0) := by
  refine zI_of (cc := cX1_init) (maxL := 1) (by decide) rfl (Nat.le_of_ble_eq_true rfl) rfl ?_
  intro h0 p e s m below meth c ls A hx hb hr hts hown hlocks hin hml hK hAO hA hS hP hD hl
  have hown : s.vm.findClass RX1 = some m.cls := hown
  have hinX1 : ∀ v ∈ u_ws RX1 TX1 2, v ∈ wsX1_init := by decide +kernel
  refine lv_aload_n hx hb dX1_init_0 rfl (lv_at hl 0 rfl) ?_
  refine W.objInit hx hb hown (hts (.methodLink RX1 3 objectInit) (by decide +kernel)) (hts (.instanceMethod objectInit) (by decide +kernel)) (hts (.code objectInit ⟨#[0xb1]⟩ 1 none) (by decide +kernel)) rfl (by rw [hml]; exact hl.1) rfl dX1_init_1 (Nat.le_of_ble_eq_true rfl) (Nat.le_of_ble_eq_true rfl) ?_
  refine W.eq (g2 := F0 m 4 ls []) rfl ?_
  refine lv_aload_n hx hb dX1_init_4 rfl (lv_at hl 0 rfl) ?_
  refine lv_bipush (v := iI 80) hx hb dX1_init_5 (by decide) ?_
  refine z_newa (atype := .char) (ty := .char) hx hb (hts (.arrayClass .char) (by decide +kernel)) rfl (fun _ _ h => h) hK 2 rfl hP hD hS hA (by omega) (by omega) rfl rfl (Nat.le_of_ble_eq_true rfl) (Nat.le_of_ble_eq_true rfl) (Nat.le_of_ble_eq_true rfl) dX1_init_7 (fun q1 H hP hD hS => ?_)
  have hP : va_P E.1 vwCl [(h0, .inr (1, [.null, .int (iI 0)])), (q1, .inl (E.2 2, 80, .inl (fun j : Nat => iI (z0 j))))] H := hP
  have hD : va_D A [(h0, .inr (1, [.null, .int (iI 0)])), (q1, .inl (E.2 2, 80, .inl (fun j : Nat => iI (z0 j))))] := hD
  refine W.widen (k := 1) (n := 80) (Nat.le_of_ble_eq_true rfl) (Nat.le_of_ble_eq_true rfl) ?_
  refine va_putF (D := E.1) (cl := vwCl) (ci := 1) (v := .ref q1) (ty := tyX1 0) (C := RX1) (T := TX1) (N := 2) hx hb hts hinX1 tyX1 tyX1_ok nmX1 hown hK hP hD hS 0 rfl rfl 0 (by decide) (hts (.fieldLink RX1 9 "GenerationNames$Pad" "signs" "[C") (by decide +kernel)) (fun _ h => h) rfl hin rfl (tyX1_ok 0 (by decide)) rfl rfl (Nat.le_of_ble_eq_true rfl) dX1_init_9 (fun H locs hP hD hS => ?_)
  have hP : va_P E.1 vwCl [(h0, .inr (1, [.ref q1, .int (iI 0)])), (q1, .inl (E.2 2, 80, .inl (fun j : Nat => iI (z0 j))))] H := hP
  have hD : va_D A [(h0, .inr (1, [.ref q1, .int (iI 0)])), (q1, .inl (E.2 2, 80, .inl (fun j : Nat => iI (z0 j))))] := hD
  refine lv_aload_n hx hb dX1_init_12 rfl (lv_at hl 0 rfl) ?_
  refine lv_iconst (v := iI 0) hx hb dX1_init_13 (by decide) ?_
  refine va_put (D := E.1) (cl := vwCl) (ci := 1) (v := .int (iI 0)) (ty := tyX1 1) (C := RX1) (T := TX1) (N := 2) hx hb hts hinX1 tyX1 tyX1_ok nmX1 hown hK hP hD hS 0 rfl rfl 1 (by decide) (hts (.fieldLink RX1 15 "GenerationNames$Pad" "length" "I") (by decide +kernel)) (fun _ h => h) rfl (tyX1_ok 1 (by decide)) rfl rfl (Nat.le_of_ble_eq_true rfl) dX1_init_14 (fun H locs hP hD hS => ?_)
  have hP : va_P E.1 vwCl [(h0, .inr (1, [.ref q1, .int (iI 0)])), (q1, .inl (E.2 2, 80, .inl (fun j : Nat => iI (z0 j))))] H := hP
  have hD : va_D A [(h0, .inr (1, [.ref q1, .int (iI 0)])), (q1, .inl (E.2 2, 80, .inl (fun j : Nat => iI (z0 j))))] := hD
  exact z_vret hx hb hr hlocks hK hS (fun j : Nat => if j = 0 then h0 else q1) rfl hP hD dX1_init_17
