-- a state's world: its object, its row of groups, and the groups
abbrev zGr : Type := Nat → Int → Int
def mkG (ke ne si ro de nj mj : Int) (da re jo : Int → Int) : zGr := fun t j => if t = 0 then (if j = 0 then ke else if j = 1 then ne else if j = 2 then si else if j = 3 then ro else if j = 4 then de else if j = 5 then nj else mj) else if t = 1 then da j else if t = 2 then re j else jo j
def gq (q : Nat → Nat) (g : Int) : Nat → Nat := fun j => q (2 + 4 * g.toNat + j)
def wX (E : zE) (q : Nat → Nat) (X : zGr) : va_W := wG E q (X 0 0) (X 0 1) (X 0 2) (X 0 3) (X 0 4) (X 0 5) (X 0 6) (X 1) (X 2) (X 3)
def gU (G : Int → zGr) (g : Int) (X : zGr) : Int → zGr := fun i => if i = g then X else G i
theorem gU_same (G : Int → zGr) (g : Int) (X : zGr) : gU G g X g = X := if_pos rfl
theorem gU_ne {G : Int → zGr} {g i : Int} {X : zGr} (h : i ≠ g) : gU G g X i = G i := if_neg h
def six : List Int := [0, 1, 2, 3, 4, 5]
def wR (E : zE) (q : Nat → Nat) (G : Int → zGr) (g : Int) : va_W := (six.erase g).flatMap (fun i => wX E (gq q i) (G i))
def wS2 (E : zE) (q : Nat → Nat) (jb jr lf jf rd vr : Int) : va_W := [(q 0, .inr (2, [.ref (q 1), .int (iI jb), .int (iI jr), .int (iI lf), .int (iI jf), .int (iI rd), .int (iI vr)])), (q 1, .inl (E.2 3, 6, .inr (.inr (.inr (.inr (fun j : Nat => some (q (2 + 4 * j))))))))]
def wSt (E : zE) (q : Nat → Nat) (jb jr lf jf rd vr : Int) (G : Int → zGr) : va_W := wS2 E q jb jr lf jf rd vr ++ six.flatMap (fun i => wX E (gq q i) (G i))
def wF (E : zE) (q : Nat → Nat) (g : Int) (R : va_W) (jb jr lf jf rd vr : Int) (ke ne si ro de nj mj : Int) (da re jo : Int → Int) : va_W := wS2 E q jb jr lf jf rd vr ++ (wG E (gq q g) ke ne si ro de nj mj da re jo ++ R)
theorem six_mem {g : Int} (h : 0 ≤ g ∧ g ≤ 5) : g ∈ six := by
  unfold six
  rcases (show g = 0 ∨ g = 1 ∨ g = 2 ∨ g = 3 ∨ g = 4 ∨ g = 5 by omega) with rfl | rfl | rfl | rfl | rfl | rfl <;> simp
theorem six_nodup : six.Nodup := by decide
theorem wS_perm {E : zE} {q : Nat → Nat} {jb jr lf jf rd vr : Int} {G : Int → zGr} {g : Int} (h : 0 ≤ g ∧ g ≤ 5) : (wSt E q jb jr lf jf rd vr G).Perm (wF E q g (wR E q G g) jb jr lf jf rd vr (G g 0 0) (G g 0 1) (G g 0 2) (G g 0 3) (G g 0 4) (G g 0 5) (G g 0 6) (G g 1) (G g 2) (G g 3)) :=
  ((List.perm_cons_erase (six_mem h)).flatMap_right _).append_left _
theorem wR_congr {E : zE} {q : Nat → Nat} {G : Int → zGr} {g : Int} {X : zGr} : wR E q (gU G g X) g = wR E q G g := by
  unfold wR
  have : ∀ l : List Int, g ∉ l → l.flatMap (fun i => wX E (gq q i) (gU G g X i)) = l.flatMap (fun i => wX E (gq q i) (G i)) := by
    intro l
    induction l with
    | nil => intro _; rfl
    | cons a l ih =>
      intro h
      rw [List.flatMap_cons, List.flatMap_cons, ih (fun q => h (List.mem_cons_of_mem _ q)), gU_ne (fun e => h (by rw [e]; exact List.mem_cons_self))]
  exact this _ (six_nodup.not_mem_erase)
theorem wF_perm {E : zE} {q : Nat → Nat} {jb jr lf jf rd vr : Int} {G : Int → zGr} {g : Int} {ke ne si ro de nj mj : Int} {da re jo : Int → Int} (h : 0 ≤ g ∧ g ≤ 5) : (wF E q g (wR E q G g) jb jr lf jf rd vr ke ne si ro de nj mj da re jo).Perm (wSt E q jb jr lf jf rd vr (gU G g (mkG ke ne si ro de nj mj da re jo))) := by
  have hp := wS_perm (E := E) (q := q) (jb := jb) (jr := jr) (lf := lf) (jf := jf) (rd := rd) (vr := vr) (G := gU G g (mkG ke ne si ro de nj mj da re jo)) h
  rw [wR_congr, gU_same] at hp
  exact hp.symm
section
variable {p : Program} {l : Launch} {e : Env} {R : Room} {s : State} {m : MethodId} {args : Array Value} {below : List Frame} {meth : Method} {c : Code} {H : Heap} {locs : List Loc} {cells slots : Nat} {Q : State → Prop}
variable {cc : ByteArray} {pc : Nat} {ls : Array Slot} {rest : List Value} {E : zE} {A : Nat → Prop} {H0 : Heap} {D : va_G} {cl : List vw_C} {tys : List (ClassId × FieldType)} {ws : va_W} {a : Nat}
/-- a call in the middle of a world -/
theorem z_callM {own C : String} {index nL maxL n ci qk fr lc : Nat} {y : MethodName} {bytes : ByteArray} {ret : Option FieldType} {Ts ws ws' : List Cond} {b : Nat} {As st0 : List Value} {w w0 wr : va_W} {S : Type} {post : Int → S → Prop} {w' : S → va_W} {q : vw_C} {fs : List Value}
    (hx : p.tables.exec = Jvm.exec) (hb : c.code = cc) (hml : c.maxLocals = nL) (hown : s.vm.findClass own = some m.cls) (hts : ∀ v ∈ Ts, v.before args s = true) (hK : va_K E.1 vwCl (zT E) s) (hA : ∀ q : Nat, H0.size ≤ q → A q) (hls : ls.size = nL)
    (hP : va_P E.1 vwCl (w0 ++ (w ++ wr)) H) (hD : va_D A (w0 ++ (w ++ wr))) (hS : va_S A H0 H locs)
    (hC : zC l E y ws fr lc (.ref b :: As) w post w') (hG : GoodIn Ts (wsV own index C y ws)) (hw : ws = Cond.code y bytes maxL ret :: ws')
    (hd : y.cls = C ∧ y.cls ≠ "java/lang/invoke/MethodHandle" ∧ y.cls ≠ "java/lang/invoke/VarHandle" ∧ (parseMethodDescriptor y.desc).map (fun d => d.parameters.length) = some n)
    (hR : fr + 1 ≤ R.frames ∧ 8 + (maxL + 11) + lc ≤ R.locals) (hc : vwCl[ci]? = some q) (hq : q.1 = C) (he : w[qk]? = some (b, .inr (ci, fs)))
    (hn : As.length = n) (hst : st0 = As.reverse ++ .ref b :: rest) (hroom : (rest.map fun v => v.category).sum ≤ 8) (hdg : decode cc pc = .ok (.invokevirtual index, 3)) (hf : cells ≤ R.cells ∧ slots ≤ R.slots)
    (kk : ∀ (x : Int) (u : S) (H1 : Heap) (locs1 : List Loc), post x u → va_P E.1 vwCl (w0 ++ (w' u ++ wr)) H1 → va_D A (w0 ++ (w' u ++ wr)) → va_S A H0 H1 locs1 → W p l e R s m args below meth c H1 locs1 cells slots Q (F0 m (pc + 3) ls (.int (iI x) :: rest))) :
    W p l e R s m args below meth c H locs cells slots Q (F0 m pc ls st0) := by
  have pm : ∀ v : va_W, (w0 ++ (v ++ wr)).Perm (v ++ (w0 ++ wr)) := fun v => List.perm_append_comm_assoc _ _ _
  exact z_callV (w := w) (wr := w0 ++ wr) hx hb hml hown hts hK hA hls (zP_perm hP (pm w)) (zD_perm hD (pm w)) hS hC hG hw hd hR hc hq he hn hst hroom hdg hf (fun x u H1 locs1 h1 h2 h3 h4 => kk x u H1 locs1 h1 (zP_perm h2 (pm _).symm) (zD_perm h3 (pm _).symm) h4)
theorem z_callMv {own C : String} {index nL maxL n ci qk fr lc : Nat} {y : MethodName} {bytes : ByteArray} {ret : Option FieldType} {Ts ws ws' : List Cond} {b : Nat} {As st0 : List Value} {w w0 wr : va_W} {S : Type} {post : S → Prop} {w' : S → va_W} {q : vw_C} {fs : List Value}
    (hx : p.tables.exec = Jvm.exec) (hb : c.code = cc) (hml : c.maxLocals = nL) (hown : s.vm.findClass own = some m.cls) (hts : ∀ v ∈ Ts, v.before args s = true) (hK : va_K E.1 vwCl (zT E) s) (hA : ∀ q : Nat, H0.size ≤ q → A q) (hls : ls.size = nL)
    (hP : va_P E.1 vwCl (w0 ++ (w ++ wr)) H) (hD : va_D A (w0 ++ (w ++ wr))) (hS : va_S A H0 H locs)
    (hC : zCv l E y ws fr lc (.ref b :: As) w post w') (hG : GoodIn Ts (wsV own index C y ws)) (hw : ws = Cond.code y bytes maxL ret :: ws')
    (hd : y.cls = C ∧ y.cls ≠ "java/lang/invoke/MethodHandle" ∧ y.cls ≠ "java/lang/invoke/VarHandle" ∧ (parseMethodDescriptor y.desc).map (fun d => d.parameters.length) = some n)
    (hR : fr + 1 ≤ R.frames ∧ 8 + (maxL + 11) + lc ≤ R.locals) (hc : vwCl[ci]? = some q) (hq : q.1 = C) (he : w[qk]? = some (b, .inr (ci, fs)))
    (hn : As.length = n) (hst : st0 = As.reverse ++ .ref b :: rest) (hroom : (rest.map fun v => v.category).sum ≤ 8) (hdg : decode cc pc = .ok (.invokevirtual index, 3)) (hf : cells ≤ R.cells ∧ slots ≤ R.slots)
    (kk : ∀ (u : S) (H1 : Heap) (locs1 : List Loc), post u → va_P E.1 vwCl (w0 ++ (w' u ++ wr)) H1 → va_D A (w0 ++ (w' u ++ wr)) → va_S A H0 H1 locs1 → W p l e R s m args below meth c H1 locs1 cells slots Q (F0 m (pc + 3) ls rest)) :
    W p l e R s m args below meth c H locs cells slots Q (F0 m pc ls st0) := by
  have pm : ∀ v : va_W, (w0 ++ (v ++ wr)).Perm (v ++ (w0 ++ wr)) := fun v => List.perm_append_comm_assoc _ _ _
  exact z_callVv (w := w) (wr := w0 ++ wr) hx hb hml hown hts hK hA hls (zP_perm hP (pm w)) (zD_perm hD (pm w)) hS hC hG hw hd hR hc hq he hn hst hroom hdg hf (fun u H1 locs1 h1 h2 h3 h4 => kk u H1 locs1 h1 (zP_perm h2 (pm _).symm) (zD_perm h3 (pm _).symm) h4)
/-- the group at an index -/
theorem z_aald {C : String} (hx : p.tables.exec = Jvm.exec) (hb : c.code = cc) (hK : va_K D cl tys s) (hP : va_P D cl ws H) (q0 t0 : Nat) {cA : ClassId} {n : Nat} (f : Nat → Nat) (ha : ws[q0]? = some (a, .inl (cA, n, .inr (.inr (.inr (.inr (fun j : Nat => some (f j)))))))) (ht : tys[t0]? = some (cA, .object C)) {x : Int} (h0 : 0 ≤ x) (h1 : x < n) (h2 : x < 2147483648) (hdg : decode cc pc = .ok (.aaload, 1))
    (k : W p l e R s m args below meth c H locs cells slots Q (F0 m (pc + 1) ls (.ref (f x.toNat) :: rest))) : W p l e R s m args below meth c H locs cells slots Q (F0 m pc ls (.int (iI x) :: .ref a :: rest)) :=
  va_aldq hx hb hK hP q0 t0 ha ht (iI_in h0 h1 h2) hdg (by
    show W p l e R s m args below meth c H locs cells slots Q (F0 m (pc + 1) ls (.ref (f (iI x).toNatClampNeg) :: rest))
    rw [iI_ix ⟨by omega, h2⟩]
    exact k)
end
theorem nz01 {x : Int} (h : x = 0 ∨ x = 1) : narrow .boolean (.int (iI x)) = .int (iI x) := by rcases h with rfl | rfl <;> rfl
theorem fz01 {x : Int} (h : x = 0 ∨ x = 1) : fits .boolean (.int (iI x)) = true := by rcases h with rfl | rfl <;> rfl
-- the changes of a group, as functions
def xK (X : zGr) (k : Int) : zGr := mkG k (X 0 1) (cL (X 1) (X 0 1) k (X 0 2) (X 0 3)).1 (cL (X 1) (X 0 1) k (X 0 2) (X 0 3)).2 (X 0 4) (X 0 5) (X 0 6) (X 1) (X 2) (X 3)
def xMk (X : zGr) (d j : Int) : zGr := mkG (X 0 0) (X 0 1 + 1) ((cL (X 1) (X 0 1) (X 0 0 - 1) (X 0 2) (X 0 3)).1 + 1) (cL (X 1) (X 0 1) (X 0 0 - 1) (X 0 2) (X 0 3)).2 (X 0 4) (X 0 5) (X 0 1 + 1) (iU (X 1) ((X 0 1 + 1) % 8) d) (iU (X 2) ((X 0 1 + 1) % 8) 0) (iU (X 3) ((X 0 1 + 1) % 8) j)
def xHo (X : zGr) (sr : Int) : zGr := mkG (X 0 0) (X 0 1) (cL (iU (X 1) (sr % 8) (-6)) (X 0 1) (X 0 0) (X 0 2) (X 0 3)).1 (cL (iU (X 1) (sr % 8) (-6)) (X 0 1) (X 0 0) (X 0 2) (X 0 3)).2 (X 0 4 + 1) (X 0 5) (X 0 6) (iU (X 1) (sr % 8) (-6)) (X 2) (X 3)
def xDa (X : zGr) (sr d : Int) : zGr := mkG (X 0 0) (X 0 1) (X 0 2) (X 0 3) (X 0 4) (X 0 5) (X 0 6) (iU (X 1) (sr % 8) d) (X 2) (X 3)
def xRe (X : zGr) (sr : Int) : zGr := mkG (X 0 0) (X 0 1) (X 0 2) (X 0 3) (X 0 4) (X 0 5) (X 0 6) (X 1) (iU (X 2) (sr % 8) (X 2 (sr % 8) + 1)) (X 3)
def xNJ (X : zGr) : zGr := mkG (X 0 0) (X 0 1) (X 0 2) (X 0 3) (X 0 4) (X 0 1) (X 0 6) (X 1) (X 2) (X 3)
def xM0 (X : zGr) : zGr := mkG (X 0 0) (X 0 1) (X 0 2) (X 0 3) (X 0 4) (X 0 5) 0 (X 1) (X 2) (X 3)
def xCp (X Y : zGr) : zGr := mkG (Y 0 0) (Y 0 1) (Y 0 2) (Y 0 3) (Y 0 4) (Y 0 5) (Y 0 6) (cpy8 (Y 1) (X 1)) (cpy8 (Y 2) (X 2)) (cpy8 (Y 3) (X 3))
def xTh (X : zGr) (x : Int) : Prop := thP (X 0 1) (X 0 2) (X 1) x
def xSo (X : zGr) (n b : Int) : Int := sOf (X 0 1) (X 0 5) (X 0 6) n b
/-- what every group keeps -/
def XI (X : zGr) : Prop := (0 ≤ X 0 1 ∧ X 0 1 ≤ 1900000000) ∧ (0 ≤ X 0 2 ∧ X 0 2 ≤ 8 ∧ X 0 2 ≤ X 0 1) ∧ DGr (X 1) ∧ (1 ≤ X 0 0 ∧ X 0 0 ≤ 8) ∧ (0 ≤ X 0 5 ∧ X 0 5 ≤ 1900000000) ∧ (0 ≤ X 0 6 ∧ X 0 6 ≤ 1900000000)
def SI (G : Int → zGr) : Prop := ∀ g : Int, 0 ≤ g → g ≤ 5 → XI (G g)
section
variable {p : Program} {l : Launch} {e : Env} {R : Room} {s : State} {m : MethodId} {args : Array Value} {below : List Frame} {meth : Method} {c : Code} {H : Heap} {locs : List Loc} {cells slots : Nat} {Q : State → Prop}
variable {cc : ByteArray} {pc : Nat} {ls : Array Slot} {rest : List Value}
theorem z_mmax (hx : p.tables.exec = Jvm.exec) (hb : c.code = cc) (hml : c.maxLocals = ls.size) {own : String} {index : Nat} (hown : s.vm.findClass own = some m.cls) (hlink : (Cond.methodLink own index Lib.Math.max.name).before args s = true) (hstat : (Cond.static Lib.Math.max.name).before args s = true) (hini : (Cond.initialized "java/lang/Math").before args s = true) (hcode : (Cond.code Lib.Math.max.name Lib.Math.max.code 2 (some .int)).before args s = true)
    (hframes : 1 ≤ R.frames) (hlocals : (rest.map fun v => v.category).sum + 13 ≤ R.locals) (hc : cells ≤ R.cells) (hs : slots ≤ R.slots) {x y : Int} (h1 : rg x) (h2 : rg y) (hdg : decode cc pc = .ok (.invokestatic index, 3))
    (kk : W p l e R s m args below meth c H locs cells slots Q (F0 m (pc + 3) ls (.int (iI (if x < y then y else x)) :: rest))) : W p l e R s m args below meth c H locs cells slots Q (F0 m pc ls (.int (iI y) :: .int (iI x) :: rest)) :=
  va_mmax hx hb hml hown hlink hstat hini hcode hframes hlocals hc hs hdg (by
    have e : (if iI x < iI y then iI y else iI x) = iI (if x < y then y else x) := by
      by_cases h : x < y
      · rw [if_pos h, if_pos ((iI_lt h1 h2).mpr h)]
      · rw [if_neg h, if_neg (fun q => h ((iI_lt h1 h2).mp q))]
    rw [e]
    exact kk)
end
