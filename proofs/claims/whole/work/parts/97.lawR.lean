-- the law's own rows
theorem lL_of (v : Int64) : ∃ cu : Int, (0 ≤ cu ∧ cu < 18446744073709551616) ∧ v = lL cu := by
  refine ⟨(v.toBitVec.toNat : Int), ⟨by omega, by have := v.toBitVec.isLt; omega⟩, ?_⟩
  apply Int64.toBitVec_inj.mp
  show v.toBitVec = BitVec.ofInt 64 (v.toBitVec.toNat : Int)
  apply BitVec.eq_of_toNat_eq
  rw [BitVec.toNat_ofInt]
  have := v.toBitVec.isLt
  omega
theorem iI_and31 (x : Int) : iI x &&& iI 31 = iI (x % 32) := by
  apply Int32.toBitVec_inj.mp
  show BitVec.ofInt 32 x &&& BitVec.ofInt 32 31 = BitVec.ofInt 32 (x % 32)
  apply BitVec.eq_of_toNat_eq
  rw [BitVec.toNat_and]
  have e7 : (BitVec.ofInt 32 31).toNat = 2 ^ 5 - 1 := by decide
  rw [e7, Nat.and_two_pow_sub_one_eq_mod, BitVec.toNat_ofInt, BitVec.toNat_ofInt]
  omega
section
variable {p : Program} {l : Launch} {e : Env} {R : Room} {s : State} {m : MethodId} {args : Array Value} {below : List Frame} {meth : Method} {c : Code} {H : Heap} {locs : List Loc} {cells slots : Nat} {Q : State → Prop}
variable {cc : ByteArray} {pc : Nat} {ls : Array Slot} {rest : List Value} {E : zE} {A : Nat → Prop} {H0 : Heap}
theorem z_iand31 (hx : p.tables.exec = Jvm.exec) (hb : c.code = cc) {x : Int} (hdg : decode cc pc = .ok (.iand, 1)) (k : W p l e R s m args below meth c H locs cells slots Q (F0 m (pc + 1) ls (.int (iI (x % 32)) :: rest))) : W p l e R s m args below meth c H locs cells slots Q (F0 m pc ls (.int (iI 31) :: .int (iI x) :: rest)) := lv_iand hx hb hdg (by rw [iI_and31]; exact k)
theorem z_sld (hx : p.tables.exec = Jvm.exec) (hb : c.code = cc) {b L : Nat} {xs : Nat → Int32} (hX : va_X b L xs s H0) (hbl : b < H0.size) (hbA : ¬ A b) (hS : va_S A H0 H locs) {x v : Int} (hv : (xs x.toNat).toInt = v) (h0 : 0 ≤ x) (h1 : x < L) (h2 : x < 2147483648) (hdg : decode cc pc = .ok (.iaload, 1)) (k : W p l e R s m args below meth c H locs cells slots Q (F0 m (pc + 1) ls (.int (iI v) :: rest))) : W p l e R s m args below meth c H locs cells slots Q (F0 m pc ls (.int (iI x) :: .ref b :: rest)) := by
  refine va_sld hx hb hX hbl hbA hS (iI_in h0 h1 h2) hdg ?_
  rw [iI_ix ⟨by omega, h2⟩, ← iI_toInt (xs x.toNat), hv]
  exact k
theorem z_slen (hx : p.tables.exec = Jvm.exec) (hb : c.code = cc) {b L : Nat} {xs : Nat → Int32} (hX : va_X b L xs s H0) (hbl : b < H0.size) (hbA : ¬ A b) (hS : va_S A H0 H locs) (hdg : decode cc pc = .ok (.arraylength, 1)) (k : W p l e R s m args below meth c H locs cells slots Q (F0 m (pc + 1) ls (.int (iI (L : Int)) :: rest))) : W p l e R s m args below meth c H locs cells slots Q (F0 m pc ls (.ref b :: rest)) :=
  va_slen hx hb hX hbl hbA hS hdg (by
    have e1 : Int32.ofNat L = iI (L : Int) := (iI_nI L).symm
    rw [e1]
    exact k)
/-- the second object's call: the first one's cells stay ahead -/
theorem z_callL {own C : String} {index nL maxL n ci qk fr lc : Nat} {y : MethodName} {bytes : ByteArray} {ret : Option FieldType} {Ts ws ws' : List Cond} {b : Nat} {As st0 : List Value} {w w0 : va_W} {S : Type} {post : Int → S → Prop} {w' : S → va_W} {q : vw_C} {fs : List Value}
    (hx : p.tables.exec = Jvm.exec) (hb : c.code = cc) (hml : c.maxLocals = nL) (hown : s.vm.findClass own = some m.cls) (hts : ∀ v ∈ Ts, v.before args s = true) (hK : va_K E.1 vwCl (zT E) s) (hA : ∀ q : Nat, H0.size ≤ q → A q) (hls : ls.size = nL)
    (hP : va_P E.1 vwCl (w0 ++ w) H) (hD : va_D A (w0 ++ w)) (hS : va_S A H0 H locs)
    (hC : zC l E y ws fr lc (.ref b :: As) w post w') (hG : GoodIn Ts (wsV own index C y ws)) (hw : ws = Cond.code y bytes maxL ret :: ws')
    (hd : y.cls = C ∧ y.cls ≠ "java/lang/invoke/MethodHandle" ∧ y.cls ≠ "java/lang/invoke/VarHandle" ∧ (parseMethodDescriptor y.desc).map (fun d => d.parameters.length) = some n)
    (hR : fr + 1 ≤ R.frames ∧ 8 + (maxL + 11) + lc ≤ R.locals) (hc : vwCl[ci]? = some q) (hq : q.1 = C) (he : w[qk]? = some (b, .inr (ci, fs)))
    (hn : As.length = n) (hst : st0 = As.reverse ++ .ref b :: rest) (hroom : (rest.map fun v => v.category).sum ≤ 8) (hdg : decode cc pc = .ok (.invokevirtual index, 3)) (hf : cells ≤ R.cells ∧ slots ≤ R.slots)
    (kk : ∀ (x : Int) (u : S) (H1 : Heap) (locs1 : List Loc), post x u → va_P E.1 vwCl (w0 ++ w' u) H1 → va_D A (w0 ++ w' u) → va_S A H0 H1 locs1 → W p l e R s m args below meth c H1 locs1 cells slots Q (F0 m (pc + 3) ls (.int (iI x) :: rest))) :
    W p l e R s m args below meth c H locs cells slots Q (F0 m pc ls st0) :=
  z_callM (w0 := w0) (w := w) (wr := []) hx hb hml hown hts hK hA hls (by rw [List.append_nil]; exact hP) (by rw [List.append_nil]; exact hD) hS hC hG hw hd hR hc hq he hn hst hroom hdg hf (fun x u H1 locs1 h1 h2 h3 h4 => kk x u H1 locs1 h1 (by rw [List.append_nil] at h2; exact h2) (by rw [List.append_nil] at h3; exact h3) h4)
end
/-- from a place of the law on, whatever the two objects hold, so it be the same -/
def lawK (p : Program) (l : Launch) (e : Env) (s : State) (m : MethodId) (below : List Frame) (meth : Method) (c : Code) (b : Nat) (E : zE) (q nq qm : Nat → Nat) (sa : Int → Nat → Nat) (Q : State → Prop) (ls : Array Slot) (B : Int) (pc : Nat) : Prop :=
  ∀ (ha : Int → Nat → Nat) (un : Int) (svd sg : Int → Int) (le : Int) (hv sv : Int → zSt) (jb jr lf jf rd vr : Int) (G : Int → zGr) (z pa sl msv sp pd od : Int → Int) (pm ty om st wr : Int) (H : Heap) (locs : List Loc), Rel B un svd sg le hv sv jb jr lf jf rd vr G z pa sl msv pd pm ty → va_P E.1 vwCl (wN E q nq sa ha un svd sg le hv sv jb jr lf jf rd vr G ++ wM E qm z pa sl msv sp pd od pm ty om st wr) H → va_D (fun a : Nat => s.heap.size ≤ a) (wN E q nq sa ha un svd sg le hv sv jb jr lf jf rd vr G ++ wM E qm z pa sl msv sp pd od pm ty om st wr) → va_S (fun a : Nat => s.heap.size ≤ a) s.heap H locs → W p l e room_1 s m #[.ref b] below meth c H locs 274 6197 Q (F0 m pc ls [])
theorem Rel_facts {B un : Int} {svd sg : Int → Int} {le : Int} {hv sv : Int → zSt} {jb jr lf jf rd vr : Int} {G : Int → zGr} {z pa sl msv pd : Int → Int} {pm ty : Int} (h : Rel B un svd sg le hv sv jb jr lf jf rd vr G z pa sl msv pd pm ty) (hB : B ≤ 90000000) : SI G ∧ SIb 1000000000 G ∧ (jr = 0 ∨ jr = 1) ∧ (lf = 0 ∨ lf = 1) ∧ (0 ≤ jb ∧ jb ≤ 1900000000) ∧ (0 ≤ jb ∧ jb ≤ 1000000000) ∧ (0 ≤ un ∧ un ≤ 6) ∧ (0 ≤ pm ∧ pm ≤ 6) ∧ okH hv ∧ okS sv svd ∧ (∀ j : Int, msv j = 0 ∨ msv j = 1) ∧ (0 ≤ le ∧ le ≤ 80) ∧ PD sg le ∧ (0 ≤ ty ∧ ty ≤ 80) ∧ PD pd ty ∧ MI z ∧ z 6 < 1000000000 ∧ (cF sg le = -6 → ∀ i : Int, 0 ≤ i → i < le → (i = 0 ∨ Sg sg le (i - 1) = 59) → rg (dOO sg le i)) := by
  obtain ⟨hT, hH, hS, ⟨rfl, rfl, p1, p2⟩⟩ := h
  obtain ⟨-, f_j, -, f_l, -, f_jb⟩ := hT.z1
  have hm := hT.1.2.2.1
  have h6 := hm.2.2.2.2.2
  refine ⟨hT.si (by omega), fun g a b => ?_, f_j, f_l, by omega, by omega, hH.2.1, by have := hH.1; have := hH.2.1; omega, hH.2.2.1, hS.1, hS.2.1, p1, p2, p1, p2, hT.mi (by omega), by omega, fun hc i h0 _ _ => dOO_rg hc h0⟩
  exact SIb.le (B := B) hT.1.sib (by omega) g a b
