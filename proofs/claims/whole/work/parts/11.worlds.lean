-- the worlds: the model's cells, a group's, the pad's
def wM (E : zE) (q : Nat → Nat) (z pa sl sv sp pd od : Int → Int) (pm ty om st wr : Int) : va_W := [(q 0, .inr (4, [.ref (q 1), .ref (q 2), .ref (q 3), .ref (q 4), .int (iI pm), .ref (q 5), .ref (q 6), .int (iI ty), .ref (q 7), .int (iI om), .int (iI st), .int (iI wr)])), (q 1, .inl (E.2 0, 367, .inl (fun j : Nat => iI (z j)))), (q 2, .inl (E.2 0, 2202, .inl (fun j : Nat => iI (pa j)))), (q 3, .inl (E.2 0, 734, .inl (fun j : Nat => iI (sl j)))), (q 4, .inl (E.2 1, 2, .inl (fun j : Nat => iI (sv j)))), (q 5, .inl (E.2 0, 367, .inl (fun j : Nat => iI (sp j)))), (q 6, .inl (E.2 2, 80, .inl (fun j : Nat => iI (pd j)))), (q 7, .inl (E.2 0, 164, .inl (fun j : Nat => iI (od j))))]
def wG (E : zE) (q : Nat → Nat) (ke ne si ro de nj mj : Int) (da re jo : Int → Int) : va_W := [(q 0, .inr (0, [.int (iI ke), .int (iI ne), .int (iI si), .int (iI ro), .int (iI de), .int (iI nj), .int (iI mj), .ref (q 1), .ref (q 2), .ref (q 3)])), (q 1, .inl (E.2 0, 8, .inl (fun j : Nat => iI (da j)))), (q 2, .inl (E.2 0, 8, .inl (fun j : Nat => iI (re j)))), (q 3, .inl (E.2 0, 8, .inl (fun j : Nat => iI (jo j))))]
def wPd (E : zE) (q : Nat → Nat) (sg : Int → Int) (le : Int) : va_W := [(q 0, .inr (1, [.ref (q 1), .int (iI le)])), (q 1, .inl (E.2 2, 80, .inl (fun j : Nat => iI (sg j))))]
section
variable {p : Program} {l : Launch} {e : Env} {R : Room} {s : State} {m : MethodId} {args : Array Value} {below : List Frame} {meth : Method} {c : Code} {H : Heap} {locs : List Loc} {cells slots : Nat} {Q : State → Prop}
variable {cc : ByteArray} {pc : Nat} {ls : Array Slot} {rest : List Value} {E : zE} {A : Nat → Prop} {H0 : Heap}
/-- the whole world is the callee's -/
theorem z_callV0 {own C : String} {index nL maxL n ci qk fr lc : Nat} {y : MethodName} {bytes : ByteArray} {ret : Option FieldType} {Ts ws ws' : List Cond} {b : Nat} {As st0 : List Value} {w : va_W} {S : Type} {post : Int → S → Prop} {w' : S → va_W} {q : vw_C} {fs : List Value}
    (hx : p.tables.exec = Jvm.exec) (hb : c.code = cc) (hml : c.maxLocals = nL) (hown : s.vm.findClass own = some m.cls) (hts : ∀ v ∈ Ts, v.before args s = true) (hK : va_K E.1 vwCl (zT E) s) (hA : ∀ q : Nat, H0.size ≤ q → A q) (hls : ls.size = nL)
    (hP : va_P E.1 vwCl w H) (hD : va_D A w) (hS : va_S A H0 H locs)
    (hC : zC l E y ws fr lc (.ref b :: As) w post w') (hG : GoodIn Ts (wsV own index C y ws)) (hw : ws = Cond.code y bytes maxL ret :: ws')
    (hd : y.cls = C ∧ y.cls ≠ "java/lang/invoke/MethodHandle" ∧ y.cls ≠ "java/lang/invoke/VarHandle" ∧ (parseMethodDescriptor y.desc).map (fun d => d.parameters.length) = some n)
    (hR : fr + 1 ≤ R.frames ∧ 8 + (maxL + 11) + lc ≤ R.locals) (hc : vwCl[ci]? = some q) (hq : q.1 = C) (he : w[qk]? = some (b, .inr (ci, fs)))
    (hn : As.length = n) (hst : st0 = As.reverse ++ .ref b :: rest) (hroom : (rest.map fun v => v.category).sum ≤ 8) (hdg : decode cc pc = .ok (.invokevirtual index, 3)) (hf : cells ≤ R.cells ∧ slots ≤ R.slots)
    (kk : ∀ (x : Int) (u : S) (H1 : Heap) (locs1 : List Loc), post x u → va_P E.1 vwCl (w' u) H1 → va_D A (w' u) → va_S A H0 H1 locs1 → W p l e R s m args below meth c H1 locs1 cells slots Q (F0 m (pc + 3) ls (.int (iI x) :: rest))) :
    W p l e R s m args below meth c H locs cells slots Q (F0 m pc ls st0) :=
  z_callV (wr := []) hx hb hml hown hts hK hA hls (by rw [List.append_nil]; exact hP) (by rw [List.append_nil]; exact hD) hS hC hG hw hd hR hc hq he hn hst hroom hdg hf (fun x u H1 locs1 h1 h2 h3 h4 => kk x u H1 locs1 h1 (by rw [List.append_nil] at h2; exact h2) (by rw [List.append_nil] at h3; exact h3) h4)
theorem z_callVv0 {own C : String} {index nL maxL n ci qk fr lc : Nat} {y : MethodName} {bytes : ByteArray} {ret : Option FieldType} {Ts ws ws' : List Cond} {b : Nat} {As st0 : List Value} {w : va_W} {S : Type} {post : S → Prop} {w' : S → va_W} {q : vw_C} {fs : List Value}
    (hx : p.tables.exec = Jvm.exec) (hb : c.code = cc) (hml : c.maxLocals = nL) (hown : s.vm.findClass own = some m.cls) (hts : ∀ v ∈ Ts, v.before args s = true) (hK : va_K E.1 vwCl (zT E) s) (hA : ∀ q : Nat, H0.size ≤ q → A q) (hls : ls.size = nL)
    (hP : va_P E.1 vwCl w H) (hD : va_D A w) (hS : va_S A H0 H locs)
    (hC : zCv l E y ws fr lc (.ref b :: As) w post w') (hG : GoodIn Ts (wsV own index C y ws)) (hw : ws = Cond.code y bytes maxL ret :: ws')
    (hd : y.cls = C ∧ y.cls ≠ "java/lang/invoke/MethodHandle" ∧ y.cls ≠ "java/lang/invoke/VarHandle" ∧ (parseMethodDescriptor y.desc).map (fun d => d.parameters.length) = some n)
    (hR : fr + 1 ≤ R.frames ∧ 8 + (maxL + 11) + lc ≤ R.locals) (hc : vwCl[ci]? = some q) (hq : q.1 = C) (he : w[qk]? = some (b, .inr (ci, fs)))
    (hn : As.length = n) (hst : st0 = As.reverse ++ .ref b :: rest) (hroom : (rest.map fun v => v.category).sum ≤ 8) (hdg : decode cc pc = .ok (.invokevirtual index, 3)) (hf : cells ≤ R.cells ∧ slots ≤ R.slots)
    (kk : ∀ (u : S) (H1 : Heap) (locs1 : List Loc), post u → va_P E.1 vwCl (w' u) H1 → va_D A (w' u) → va_S A H0 H1 locs1 → W p l e R s m args below meth c H1 locs1 cells slots Q (F0 m (pc + 3) ls rest)) :
    W p l e R s m args below meth c H locs cells slots Q (F0 m pc ls st0) :=
  z_callVv (wr := []) hx hb hml hown hts hK hA hls (by rw [List.append_nil]; exact hP) (by rw [List.append_nil]; exact hD) hS hC hG hw hd hR hc hq he hn hst hroom hdg hf (fun u H1 locs1 h1 h2 h3 h4 => kk u H1 locs1 h1 (by rw [List.append_nil] at h2; exact h2) (by rw [List.append_nil] at h3; exact h3) h4)
/-- a static method that asks no cell -/
theorem z_callS0 {own : String} {index nL maxL n fr lc : Nat} {y : MethodName} {bytes : ByteArray} {ret : Option FieldType} {Ts ws ws' : List Cond} {As st0 : List Value} {w : va_W} {r : Int}
    (hx : p.tables.exec = Jvm.exec) (hb : c.code = cc) (hml : c.maxLocals = nL) (hown : s.vm.findClass own = some m.cls) (hts : ∀ v ∈ Ts, v.before args s = true) (hK : va_K E.1 vwCl (zT E) s) (hA : ∀ q : Nat, H0.size ≤ q → A q) (hls : ls.size = nL)
    (hP : va_P E.1 vwCl w H) (hD : va_D A w) (hS : va_S A H0 H locs)
    (hC : zF l E y ws fr lc As [] r []) (hG : GoodIn Ts (wsS own index y ws)) (hw : ws = Cond.code y bytes maxL ret :: ws')
    (hd : y.cls = own ∧ y.cls ≠ "java/lang/invoke/MethodHandle" ∧ y.cls ≠ "java/lang/invoke/VarHandle" ∧ (parseMethodDescriptor y.desc).map (fun d => d.parameters.length) = some n)
    (hR : fr + 1 ≤ R.frames ∧ 8 + (maxL + 11) + lc ≤ R.locals)
    (hn : As.length = n) (hst : st0 = As.reverse ++ rest) (hroom : (rest.map fun v => v.category).sum ≤ 8) (hdg : decode cc pc = .ok (.invokestatic index, 3)) (hf : cells ≤ R.cells ∧ slots ≤ R.slots)
    (kk : ∀ (x : Int) (H1 : Heap) (locs1 : List Loc), x = r → va_P E.1 vwCl w H1 → va_D A w → va_S A H0 H1 locs1 → W p l e R s m args below meth c H1 locs1 cells slots Q (F0 m (pc + 3) ls (.int (iI x) :: rest))) :
    W p l e R s m args below meth c H locs cells slots Q (F0 m pc ls st0) :=
  z_callS (w := []) (wr := w) hx hb hml hown hts hK hA hls hP hD hS hC hG hw hd hR hn hst hroom hdg hf (fun x _ H1 locs1 h1 h2 h3 h4 => kk x H1 locs1 h1 h2 h3 h4)
end
-- the model's state, group by group
def zg (z : Int → Int) (g k : Int) : Int := z (7 + 60 * g + k)
def zs (z : Int → Int) (g k v : Int) : Int → Int := iU z (7 + 60 * g + k) v
