theorem nar_bool1 : vp_nar .boolean (iI 1) = iI 1 := rfl
theorem nar_bool0 : vp_nar .boolean (iI 0) = iI 0 := rfl
section
variable {p : Program} {l : Launch} {e : Env} {R : Room} {s : State} {m : MethodId} {args : Array Value} {below : List Frame} {meth : Method} {c : Code} {H : Heap} {locs : List Loc} {cells slots : Nat} {Q : State → Prop}
variable {cc : ByteArray} {pc : Nat} {ls : Array Slot} {rest : List Value} {A : Nat → Prop} {H0 : Heap} {D : va_G} {cl : List vw_C} {tys : List (ClassId × FieldType)} {ws : va_W} {a : Nat}
theorem z_zast (hx : p.tables.exec = Jvm.exec) (hb : c.code = cc) (hK : va_K D cl tys s) (hP : va_P D cl ws H) (hD : va_D A ws) (hS : va_S A H0 H locs) (q0 t0 : Nat) {cA : ClassId} {n : Nat} {f : Int → Int} (ha : ws[q0]? = some (a, .inl (cA, n, .inl (fun j : Nat => iI (f j))))) (ht : tys[t0]? = some (cA, .boolean)) {x v : Int} (hv : vp_nar .boolean (iI v) = iI v) (h0 : 0 ≤ x) (h1 : x < n) (h2 : x < 2147483648) (hdg : decode cc pc = .ok (.bastore, 1))
    (kk : ∀ (H1 : Heap) (locs1 : List Loc), va_P D cl (ws.set q0 (a, .inl (cA, n, .inl (fun j : Nat => iI (iU f x v j))))) H1 → va_D A (ws.set q0 (a, .inl (cA, n, .inl (fun j : Nat => iI (iU f x v j))))) → va_S A H0 H1 locs1 → W p l e R s m args below meth c H1 locs1 cells slots Q (F0 m (pc + 1) ls rest)) : W p l e R s m args below meth c H locs cells slots Q (F0 m pc ls (.int (iI v) :: .int (iI x) :: .ref a :: rest)) :=
  va_zast hx hb hK hP hD hS q0 t0 ha ht (iI_in h0 h1 h2) hdg (fun H1 locs1 hP hD hS => by rw [hv, row_set f h0 h2] at hP hD; exact kk H1 locs1 hP hD hS)
theorem z_cast (hx : p.tables.exec = Jvm.exec) (hb : c.code = cc) (hK : va_K D cl tys s) (hP : va_P D cl ws H) (hD : va_D A ws) (hS : va_S A H0 H locs) (q0 t0 : Nat) {cA : ClassId} {n : Nat} {f : Int → Int} (ha : ws[q0]? = some (a, .inl (cA, n, .inl (fun j : Nat => iI (f j))))) (ht : tys[t0]? = some (cA, .char)) {x v : Int} (hv : vp_nar .char (iI v) = iI v) (h0 : 0 ≤ x) (h1 : x < n) (h2 : x < 2147483648) (hdg : decode cc pc = .ok (.castore, 1))
    (kk : ∀ (H1 : Heap) (locs1 : List Loc), va_P D cl (ws.set q0 (a, .inl (cA, n, .inl (fun j : Nat => iI (iU f x v j))))) H1 → va_D A (ws.set q0 (a, .inl (cA, n, .inl (fun j : Nat => iI (iU f x v j))))) → va_S A H0 H1 locs1 → W p l e R s m args below meth c H1 locs1 cells slots Q (F0 m (pc + 1) ls rest)) : W p l e R s m args below meth c H locs cells slots Q (F0 m pc ls (.int (iI v) :: .int (iI x) :: .ref a :: rest)) :=
  va_cast hx hb hK hP hD hS q0 t0 ha ht (iI_in h0 h1 h2) hdg (fun H1 locs1 hP hD hS => by rw [hv, row_set f h0 h2] at hP hD; exact kk H1 locs1 hP hD hS)
end
def undoZ (z pa : Int → Int) (pm : Int) : Int → Int := itr (fun k y => iU y k (pa ((pm - 1) * 367 + k))) z (367 : Int).toNat
def saveS (z sl : Int → Int) (s : Int) : Int → Int := itr (fun k y => iU y (s * 367 + k) (z k)) sl (367 : Int).toNat
def restZ (z sl : Int → Int) (s : Int) : Int → Int := itr (fun k y => iU y k (sl (s * 367 + k))) z (367 : Int).toNat
def copyR (d src : Int → Int) : Int → Int := itr (fun k y => iU y k (src k)) d (367 : Int).toNat
/-- a row copied into another, closed -/
theorem itr_copy (d src : Int → Int) (b o : Int) : ∀ (n : Nat) (j : Int), itr (fun k y => iU y (b + k) (src (o + k))) d n j = if b ≤ j ∧ j < b + n then src (j - b + o) else d j
  | 0, j => (if_neg (by omega)).symm
  | n + 1, j => by
    show (if j = b + n then src (o + n) else itr (fun k y => iU y (b + k) (src (o + k))) d n j) = _
    rw [itr_copy d src b o n j]
    by_cases e : j = b + n
    · rw [if_pos e, if_pos (by omega), show j - b + o = o + n by omega]
    · rw [if_neg e]
      by_cases e2 : b ≤ j ∧ j < b + n
      · rw [if_pos e2, if_pos (by omega)]
      · rw [if_neg e2, if_neg (by omega)]
