-- contracts of methods that make nothing: from a world of cells to a world of cells
abbrev zE : Type := va_G × (Nat → ClassId)
abbrev zT (E : zE) : List (ClassId × FieldType) := [(E.2 0, .int), (E.2 1, .boolean), (E.2 2, .char), (E.2 3, .object RX0), (E.2 4, .object RX2)]
def zPre (E : zE) (w : va_W) (sz : Nat) : State → Prop := fun U => U.heap.size = sz ∧ va_P E.1 vwCl w U.heap ∧ va_K E.1 vwCl (zT E) U ∧ va_D (fun _ => True) w
def zB (E : zE) (A : Nat → Prop) {S : Type} (w : S → va_W) : S → State → Prop := fun u t => va_P E.1 vwCl (w u) t.heap ∧ va_K E.1 vwCl (zT E) t ∧ va_D A (w u)
def zQ (E : zE) (A : Nat → Prop) {S : Type} (post : Int → S → Prop) (w : S → va_W) : Array Value → State → Outcome → State → Prop := va_Qi (fun (r : Int32) (u : S) => ∃ x : Int, r = iI x ∧ post x u) (zB E A w) A
def zQv (E : zE) (A : Nat → Prop) {S : Type} (post : S → Prop) (w : S → va_W) : Array Value → State → Outcome → State → Prop := va_Qv post (zB E A w) A
abbrev zR (fr lc : Nat) : Room := { frames := fr, cells := 0, slots := 0, locals := lc }
def zC (l : Launch) (E : zE) (y : MethodName) (ws : List Cond) (fr lc : Nat) (as : List Value) (w : va_W) {S : Type} (post : Int → S → Prop) (w' : S → va_W) : Prop :=
  ∀ sz : Nat, Met l y ws (zR fr lc) (va_Pc as (zPre E w sz)) (zQ E (va_A w sz) post w') 0 0 (va_A w sz)
def zCv (l : Launch) (E : zE) (y : MethodName) (ws : List Cond) (fr lc : Nat) (as : List Value) (w : va_W) {S : Type} (post : S → Prop) (w' : S → va_W) : Prop :=
  ∀ sz : Nat, Met l y ws (zR fr lc) (va_Pc as (zPre E w sz)) (zQv E (va_A w sz) post w') 0 0 (va_A w sz)
/-- an answer and a world, told outright -/
abbrev zF (l : Launch) (E : zE) (y : MethodName) (ws : List Cond) (fr lc : Nat) (as : List Value) (w : va_W) (r : Int) (w2 : va_W) : Prop := zC l E y ws fr lc as w (S := Unit) (fun x _ => x = r) (fun _ => w2)
abbrev zFv (l : Launch) (E : zE) (y : MethodName) (ws : List Cond) (fr lc : Nat) (as : List Value) (w : va_W) (w2 : va_W) : Prop := zCv l E y ws fr lc as w (S := Unit) (fun _ => True) (fun _ => w2)
theorem zPre_blind {E : zE} {w : va_W} {sz : Nat} {as : List Value} : FrameBlind (va_Pc as (zPre E w sz)) := by
  intro a U g mk q
  obtain ⟨q0, q1, qP, qK, qD⟩ := q
  exact ⟨q0, q1, qP, va_K.moved (u := U) (U := U.calling g mk a) (Vm.Alike.refl U.vm) qK, qD⟩
/-- a method's entry -/
theorem zC_of {l : Launch} {E : zE} {y : MethodName} {ws ws' : List Cond} {fr lc : Nat} {as : List Value} {w : va_W} {S : Type} {post : Int → S → Prop} {w' : S → va_W} {cc : ByteArray} {maxL : Nat} {ty : FieldType}
    (hy : plainName y.cls = true) (hw : ws = Cond.code y cc maxL (some ty) :: ws') (hn : (lg_sl as).length ≤ maxL)
    (body : ∀ (p : Program) (e : Env) (s : State) (m : MethodId) (below : List Frame) (meth : Method) (c : Code) (ls : Array Slot) (A : Nat → Prop), p.tables.exec = Jvm.exec → c.code = cc → meth.sig.returnType = some ty → (∀ v ∈ ws, v.before as.toArray s = true) → s.vm.findClass y.cls = some m.cls → meth.locks = false → c.maxLocals = maxL →
      va_K E.1 vwCl (zT E) s → (∀ q : Nat, s.heap.size ≤ q → A q) → va_S A s.heap s.heap [] → va_P E.1 vwCl w s.heap → va_D A w → lv_has ls maxL (lv_args 0 as) →
      W p l e (zR fr lc) s m as.toArray below meth c s.heap [] 0 0 (MQ below (zQ E A post w') as.toArray s 0 0 A) (F0 m 0 ls [])) : zC l E y ws fr lc as w post w' := by
  intro sz
  refine Met.ofW (cc := cc) (maxL := maxL) (ret := some ty) hy hw ?_
  intro p e s m args below meth c s₁ B hml hv
  obtain ⟨rfl, hsz, hP, hK, hD0⟩ := hv
  have hx := B.exec
  have hb := B.bytes
  have hr := B.returns
  have hts := atoms_spec (ws := ws) B.pre
  have hown : s.vm.findClass y.cls = some m.cls := findClass_of_methodNamed B.named
  have hlocks := B.notSynchronized
  subst hsz
  have hD := hD0.self (sz := s.heap.size)
  rw [lg_entry_eq]
  exact body p e s m below meth c _ (va_A w s.heap.size) hx hb hr hts hown hlocks hml hK (fun q h => Or.inr h) va_S.rf hP hD (lv_entry as hn)
theorem zCv_of {l : Launch} {E : zE} {y : MethodName} {ws ws' : List Cond} {fr lc : Nat} {as : List Value} {w : va_W} {S : Type} {post : S → Prop} {w' : S → va_W} {cc : ByteArray} {maxL : Nat}
    (hy : plainName y.cls = true) (hw : ws = Cond.code y cc maxL none :: ws') (hn : (lg_sl as).length ≤ maxL)
    (body : ∀ (p : Program) (e : Env) (s : State) (m : MethodId) (below : List Frame) (meth : Method) (c : Code) (ls : Array Slot) (A : Nat → Prop), p.tables.exec = Jvm.exec → c.code = cc → meth.sig.returnType = none → (∀ v ∈ ws, v.before as.toArray s = true) → s.vm.findClass y.cls = some m.cls → meth.locks = false → c.maxLocals = maxL →
      va_K E.1 vwCl (zT E) s → (∀ q : Nat, s.heap.size ≤ q → A q) → va_S A s.heap s.heap [] → va_P E.1 vwCl w s.heap → va_D A w → lv_has ls maxL (lv_args 0 as) →
      W p l e (zR fr lc) s m as.toArray below meth c s.heap [] 0 0 (MQ below (zQv E A post w') as.toArray s 0 0 A) (F0 m 0 ls [])) : zCv l E y ws fr lc as w post w' := by
  intro sz
  refine Met.ofW (cc := cc) (maxL := maxL) (ret := none) hy hw ?_
  intro p e s m args below meth c s₁ B hml hv
  obtain ⟨rfl, hsz, hP, hK, hD0⟩ := hv
  have hx := B.exec
  have hb := B.bytes
  have hr := B.returns
  have hts := atoms_spec (ws := ws) B.pre
  have hown : s.vm.findClass y.cls = some m.cls := findClass_of_methodNamed B.named
  have hlocks := B.notSynchronized
  subst hsz
  have hD := hD0.self (sz := s.heap.size)
  rw [lg_entry_eq]
  exact body p e s m below meth c _ (va_A w s.heap.size) hx hb hr hts hown hlocks hml hK (fun q h => Or.inr h) va_S.rf hP hD (lv_entry as hn)
section
variable {p : Program} {l : Launch} {e : Env} {R : Room} {s : State} {m : MethodId} {args : Array Value} {below : List Frame} {meth : Method} {c : Code} {H : Heap} {locs : List Loc} {cells slots : Nat} {Q : State → Prop}
variable {cc : ByteArray} {pc : Nat} {ls : Array Slot} {rest : List Value} {E : zE} {A : Nat → Prop} {H0 : Heap}
/-- the ends of a method -/
theorem z_iret {S : Type} {post : Int → S → Prop} {w' : S → va_W} (hx : p.tables.exec = Jvm.exec) (hb : c.code = cc) (hr : meth.sig.returnType = some .int) (hlocks : meth.locks = false) (hK : va_K E.1 vwCl (zT E) s) (hS : va_S A s.heap H locs) {x : Int} (u : S) (hpost : post x u) (hP : va_P E.1 vwCl (w' u) H) (hD : va_D A (w' u)) (hdg : decode cc pc = .ok (.ireturn, 1)) :
    W p l e R s m args below meth c H locs cells slots (MQ below (zQ E A post w') args s cells slots A) (F0 m pc ls [.int (iI x)]) :=
  W.iret (v := iI x) hx hb hr (fun t ht hW => ⟨⟨iI x, u, rfl, ⟨x, rfl, hpost⟩, by rw [ht]; exact hP, va_K.moved hW.alike hK, hD⟩, hS.F ht⟩) hS.2.2 hdg hlocks
theorem z_zret {S : Type} {post : Int → S → Prop} {w' : S → va_W} (hx : p.tables.exec = Jvm.exec) (hb : c.code = cc) (hr : meth.sig.returnType = some .boolean) (hlocks : meth.locks = false) (hK : va_K E.1 vwCl (zT E) s) (hS : va_S A s.heap H locs) {x : Int} (h01 : x = 0 ∨ x = 1) (u : S) (hpost : post x u) (hP : va_P E.1 vwCl (w' u) H) (hD : va_D A (w' u)) (hdg : decode cc pc = .ok (.ireturn, 1)) :
    W p l e R s m args below meth c H locs cells slots (MQ below (zQ E A post w') args s cells slots A) (F0 m pc ls [.int (iI x)]) :=
  W.zret (v := iI x) hx hb hr (by rcases h01 with rfl | rfl <;> rfl) (fun t ht hW => ⟨⟨iI x, u, rfl, ⟨x, rfl, hpost⟩, by rw [ht]; exact hP, va_K.moved hW.alike hK, hD⟩, hS.F ht⟩) hS.2.2 hdg hlocks
theorem z_vret {S : Type} {post : S → Prop} {w' : S → va_W} (hx : p.tables.exec = Jvm.exec) (hb : c.code = cc) (hr : meth.sig.returnType = none) (hlocks : meth.locks = false) (hK : va_K E.1 vwCl (zT E) s) (hS : va_S A s.heap H locs) (u : S) (hpost : post u) (hP : va_P E.1 vwCl (w' u) H) (hD : va_D A (w' u)) (hdg : decode cc pc = .ok (.return_, 1)) :
    W p l e R s m args below meth c H locs cells slots (MQ below (zQv E A post w') args s cells slots A) (F0 m pc ls []) :=
  W.vret hx hb hr (fun t ht hW => ⟨⟨u, rfl, hpost, by rw [ht]; exact hP, va_K.moved hW.alike hK, hD⟩, hS.F ht⟩) hS.2.2 hdg hlocks
/-- calls: the callee's cells w first, the rest wr unchanged -/
theorem z_callV {own C : String} {index nL maxL n ci qk fr lc : Nat} {y : MethodName} {bytes : ByteArray} {ret : Option FieldType} {Ts ws ws' : List Cond} {b : Nat} {As st0 : List Value} {w wr : va_W} {S : Type} {post : Int → S → Prop} {w' : S → va_W} {q : vw_C} {fs : List Value}
    (hx : p.tables.exec = Jvm.exec) (hb : c.code = cc) (hml : c.maxLocals = nL) (hown : s.vm.findClass own = some m.cls) (hts : ∀ v ∈ Ts, v.before args s = true) (hK : va_K E.1 vwCl (zT E) s) (hA : ∀ q : Nat, H0.size ≤ q → A q) (hls : ls.size = nL)
    (hP : va_P E.1 vwCl (w ++ wr) H) (hD : va_D A (w ++ wr)) (hS : va_S A H0 H locs)
    (hC : zC l E y ws fr lc (.ref b :: As) w post w') (hG : GoodIn Ts (wsV own index C y ws)) (hw : ws = Cond.code y bytes maxL ret :: ws')
    (hd : y.cls = C ∧ y.cls ≠ "java/lang/invoke/MethodHandle" ∧ y.cls ≠ "java/lang/invoke/VarHandle" ∧ (parseMethodDescriptor y.desc).map (fun d => d.parameters.length) = some n)
    (hR : fr + 1 ≤ R.frames ∧ 8 + (maxL + 11) + lc ≤ R.locals) (hc : vwCl[ci]? = some q) (hq : q.1 = C) (he : w[qk]? = some (b, .inr (ci, fs)))
    (hn : As.length = n) (hst : st0 = As.reverse ++ .ref b :: rest) (hroom : (rest.map fun v => v.category).sum ≤ 8) (hdg : decode cc pc = .ok (.invokevirtual index, 3)) (hf : cells ≤ R.cells ∧ slots ≤ R.slots)
    (kk : ∀ (x : Int) (u : S) (H1 : Heap) (locs1 : List Loc), post x u → va_P E.1 vwCl (w' u ++ wr) H1 → va_D A (w' u ++ wr) → va_S A H0 H1 locs1 → W p l e R s m args below meth c H1 locs1 cells slots Q (F0 m (pc + 3) ls (.int (iI x) :: rest))) :
    W p l e R s m args below meth c H locs cells slots Q (F0 m pc ls st0) := by
  subst hq
  have hFc : ∀ q, va_A w H.size q → A q := fun q h => by
    rcases h with ⟨k, e, h⟩ | h
    · exact (zD_iff.mp hD).2 (q, e) (List.mem_append_left _ (List.mem_of_getElem? h))
    · exact hA q (Nat.le_trans hS.1 h)
  have hPc := zP_left hP
  have hDc := (zD_app.mp hD).1
  refine va_calli (mc := 0) (ms := 0) (va_runV (As := As) (rest := rest) ⟨hx, hb, hml, hown, hts⟩ (hC H.size) (cwV n hts hG hw rfl rfl hd hR) ⟨zPre_blind, va_recv hK hPc hc he, fun U hU hW => ⟨rfl, by rw [hU], by rw [hU]; exact hPc, va_K.moved hW.alike hK, hDc.weaken (fun _ _ _ _ => trivial)⟩⟩ rfl hn hls hst (lv_room hroom) hdg hf) hS (fun q _ h => hFc q h) hFc (fun r u t H1 locs1 ht hvm hp hB hz1 hk1 hS1 => ?_)
  obtain ⟨x, rfl, hx1⟩ := hp
  obtain ⟨hP1, hK1, hD1⟩ := hB
  rw [ht] at hP1
  obtain ⟨hP2, hD2⟩ := z_join hP hD hk1 hFc hP1 hD1
  exact kk x u H1 locs1 hx1 hP2 hD2 hS1
theorem z_callVv {own C : String} {index nL maxL n ci qk fr lc : Nat} {y : MethodName} {bytes : ByteArray} {ret : Option FieldType} {Ts ws ws' : List Cond} {b : Nat} {As st0 : List Value} {w wr : va_W} {S : Type} {post : S → Prop} {w' : S → va_W} {q : vw_C} {fs : List Value}
    (hx : p.tables.exec = Jvm.exec) (hb : c.code = cc) (hml : c.maxLocals = nL) (hown : s.vm.findClass own = some m.cls) (hts : ∀ v ∈ Ts, v.before args s = true) (hK : va_K E.1 vwCl (zT E) s) (hA : ∀ q : Nat, H0.size ≤ q → A q) (hls : ls.size = nL)
    (hP : va_P E.1 vwCl (w ++ wr) H) (hD : va_D A (w ++ wr)) (hS : va_S A H0 H locs)
    (hC : zCv l E y ws fr lc (.ref b :: As) w post w') (hG : GoodIn Ts (wsV own index C y ws)) (hw : ws = Cond.code y bytes maxL ret :: ws')
    (hd : y.cls = C ∧ y.cls ≠ "java/lang/invoke/MethodHandle" ∧ y.cls ≠ "java/lang/invoke/VarHandle" ∧ (parseMethodDescriptor y.desc).map (fun d => d.parameters.length) = some n)
    (hR : fr + 1 ≤ R.frames ∧ 8 + (maxL + 11) + lc ≤ R.locals) (hc : vwCl[ci]? = some q) (hq : q.1 = C) (he : w[qk]? = some (b, .inr (ci, fs)))
    (hn : As.length = n) (hst : st0 = As.reverse ++ .ref b :: rest) (hroom : (rest.map fun v => v.category).sum ≤ 8) (hdg : decode cc pc = .ok (.invokevirtual index, 3)) (hf : cells ≤ R.cells ∧ slots ≤ R.slots)
    (kk : ∀ (u : S) (H1 : Heap) (locs1 : List Loc), post u → va_P E.1 vwCl (w' u ++ wr) H1 → va_D A (w' u ++ wr) → va_S A H0 H1 locs1 → W p l e R s m args below meth c H1 locs1 cells slots Q (F0 m (pc + 3) ls rest)) :
    W p l e R s m args below meth c H locs cells slots Q (F0 m pc ls st0) := by
  subst hq
  have hFc : ∀ q, va_A w H.size q → A q := fun q h => by
    rcases h with ⟨k, e, h⟩ | h
    · exact (zD_iff.mp hD).2 (q, e) (List.mem_append_left _ (List.mem_of_getElem? h))
    · exact hA q (Nat.le_trans hS.1 h)
  have hPc := zP_left hP
  have hDc := (zD_app.mp hD).1
  refine va_callv (mc := 0) (ms := 0) (va_runV (As := As) (rest := rest) ⟨hx, hb, hml, hown, hts⟩ (hC H.size) (cwV n hts hG hw rfl rfl hd hR) ⟨zPre_blind, va_recv hK hPc hc he, fun U hU hW => ⟨rfl, by rw [hU], by rw [hU]; exact hPc, va_K.moved hW.alike hK, hDc.weaken (fun _ _ _ _ => trivial)⟩⟩ rfl hn hls hst (lv_room hroom) hdg hf) hS (fun q _ h => hFc q h) hFc (fun u t H1 locs1 ht hvm hp hB hz1 hk1 hS1 => ?_)
  obtain ⟨hP1, hK1, hD1⟩ := hB
  rw [ht] at hP1
  obtain ⟨hP2, hD2⟩ := z_join hP hD hk1 hFc hP1 hD1
  exact kk u H1 locs1 hp hP2 hD2 hS1
theorem z_callS {own : String} {index nL maxL n fr lc : Nat} {y : MethodName} {bytes : ByteArray} {ret : Option FieldType} {Ts ws ws' : List Cond} {As st0 : List Value} {w wr : va_W} {S : Type} {post : Int → S → Prop} {w' : S → va_W}
    (hx : p.tables.exec = Jvm.exec) (hb : c.code = cc) (hml : c.maxLocals = nL) (hown : s.vm.findClass own = some m.cls) (hts : ∀ v ∈ Ts, v.before args s = true) (hK : va_K E.1 vwCl (zT E) s) (hA : ∀ q : Nat, H0.size ≤ q → A q) (hls : ls.size = nL)
    (hP : va_P E.1 vwCl (w ++ wr) H) (hD : va_D A (w ++ wr)) (hS : va_S A H0 H locs)
    (hC : zC l E y ws fr lc As w post w') (hG : GoodIn Ts (wsS own index y ws)) (hw : ws = Cond.code y bytes maxL ret :: ws')
    (hd : y.cls = own ∧ y.cls ≠ "java/lang/invoke/MethodHandle" ∧ y.cls ≠ "java/lang/invoke/VarHandle" ∧ (parseMethodDescriptor y.desc).map (fun d => d.parameters.length) = some n)
    (hR : fr + 1 ≤ R.frames ∧ 8 + (maxL + 11) + lc ≤ R.locals)
    (hn : As.length = n) (hst : st0 = As.reverse ++ rest) (hroom : (rest.map fun v => v.category).sum ≤ 8) (hdg : decode cc pc = .ok (.invokestatic index, 3)) (hf : cells ≤ R.cells ∧ slots ≤ R.slots)
    (kk : ∀ (x : Int) (u : S) (H1 : Heap) (locs1 : List Loc), post x u → va_P E.1 vwCl (w' u ++ wr) H1 → va_D A (w' u ++ wr) → va_S A H0 H1 locs1 → W p l e R s m args below meth c H1 locs1 cells slots Q (F0 m (pc + 3) ls (.int (iI x) :: rest))) :
    W p l e R s m args below meth c H locs cells slots Q (F0 m pc ls st0) := by
  have hFc : ∀ q, va_A w H.size q → A q := fun q h => by
    rcases h with ⟨k, e, h⟩ | h
    · exact (zD_iff.mp hD).2 (q, e) (List.mem_append_left _ (List.mem_of_getElem? h))
    · exact hA q (Nat.le_trans hS.1 h)
  have hPc := zP_left hP
  have hDc := (zD_app.mp hD).1
  refine va_calli (mc := 0) (ms := 0) (va_runS (As := As) (rest := rest) ⟨hx, hb, hml, hown, hts⟩ (hC H.size) (cwS n hts hG hw rfl rfl hd hR) ⟨zPre_blind, fun U hU hW => ⟨rfl, by rw [hU], by rw [hU]; exact hPc, va_K.moved hW.alike hK, hDc.weaken (fun _ _ _ _ => trivial)⟩⟩ rfl hn hls hst (lv_room hroom) hdg hf) hS (fun q _ h => hFc q h) hFc (fun r u t H1 locs1 ht hvm hp hB hz1 hk1 hS1 => ?_)
  obtain ⟨x, rfl, hx1⟩ := hp
  obtain ⟨hP1, hK1, hD1⟩ := hB
  rw [ht] at hP1
  obtain ⟨hP2, hD2⟩ := z_join hP hD hk1 hFc hP1 hD1
  exact kk x u H1 locs1 hx1 hP2 hD2 hS1
end
