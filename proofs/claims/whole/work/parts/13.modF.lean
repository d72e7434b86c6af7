-- the model's methods as functions of its state
def itr {A : Type} (f : Int → A → A) (a : A) : Nat → A
  | 0 => a
  | n + 1 => f n (itr f a n)
theorem itr_step {A : Type} {f : Int → A → A} {a : A} {i : Int} (h : 0 ≤ i) : itr f a (i + 1).toNat = f i (itr f a i.toNat) := by
  obtain ⟨n, rfl⟩ := Int.eq_ofNat_of_zero_le h
  have e : ((n : Int) + 1).toNat = n + 1 := by omega
  rw [e]
  rfl
theorem itr_inv {A : Type} (P : A → Prop) (f : Int → A → A) (a : A) (h0 : P a) (hs : ∀ (i : Int) (x : A), 0 ≤ i → P x → P (f i x)) : ∀ n : Nat, P (itr f a n)
  | 0 => h0
  | n + 1 => hs n _ (by omega) (itr_inv P f a h0 hs n)
theorem zg_zs (z : Int → Int) (g k v : Int) : zg (zs z g k v) g k = v := if_pos rfl
theorem zg_zs_ne {z : Int → Int} {g k k' v : Int} (h : k' ≠ k) : zg (zs z g k v) g k' = zg z g k' := if_neg (by omega)
theorem zg_zs_g {z : Int → Int} {g g' k k' v : Int} (h : g' ≠ g) (h1 : 0 ≤ k ∧ k < 60) (h2 : 0 ≤ k' ∧ k' < 60) : zg (zs z g k v) g' k' = zg z g' k' := if_neg (by omega)
theorem zs_hd {z : Int → Int} {g k v j : Int} (h : 0 ≤ g) (h1 : 0 ≤ k) (h2 : j < 7) : zs z g k v j = z j := if_neg (by omega)
theorem zg_hd {z : Int → Int} {g k v j : Int} (h : 0 ≤ g) (h1 : 0 ≤ k) (h2 : j < 7) : zg (iU z j v) g k = zg z g k := if_neg (by omega)
theorem zs_self (z : Int → Int) (g k : Int) : zs z g k (zg z g k) = z := by
  funext j
  show (if j = 7 + 60 * g + k then z (7 + 60 * g + k) else z j) = z j
  split
  · rename_i h; rw [h]
  · rfl
/-- the cells that are compared are ints -/
def CZ (z : Int → Int) : Prop := ∀ g k : Int, (0 ≤ g ∧ g ≤ 5 ∧ 0 ≤ k ∧ k < 60 ∧ k ≠ 3 ∧ k ≠ 4 ∧ (k < 15 ∨ (k - 15) % 5 < 3)) → rg (zg z g k)
theorem CZ_zs {z : Int → Int} {g k v : Int} (h : CZ z) (h1 : 0 ≤ g ∧ g ≤ 5) (h2 : 0 ≤ k ∧ k < 60) (hv : k ≠ 3 ∧ k ≠ 4 ∧ (k < 15 ∨ (k - 15) % 5 < 3) → rg v) : CZ (zs z g k v) := by
  intro g' k' hk
  by_cases e : g' = g
  · subst e
    by_cases e2 : k' = k
    · subst e2
      rw [zg_zs]
      exact hv (by omega)
    · rw [zg_zs_ne e2]
      exact h _ _ hk
  · rw [zg_zs_g e h2 (by omega)]
    exact h _ _ hk
theorem CZ_hd {z : Int → Int} {j v : Int} (h : CZ z) (h2 : j < 7) : CZ (iU z j v) := by
  intro g k hk
  rw [zg_hd (by omega) (by omega) h2]
  exact h _ _ hk
def tr (d : Int → Int) : Nat → Nat
  | 0 => 0
  | n + 1 => if d n = -6 then tr d n else n + 1
theorem tr_congr {d d' : Int → Int} : ∀ {n : Nat}, (∀ p : Int, 0 ≤ p → p < n → d p = d' p) → tr d n = tr d' n
  | 0, _ => rfl
  | n + 1, h => by
    show (if d n = -6 then tr d n else n + 1) = (if d' n = -6 then tr d' n else n + 1)
    rw [h n (by omega) (by omega), tr_congr (n := n) (fun p h1 h2 => h p h1 (by omega))]
theorem tr_le (d : Int → Int) : ∀ n : Nat, tr d n ≤ n
  | 0 => Nat.le_refl 0
  | n + 1 => by
    show (if d n = -6 then tr d n else n + 1) ≤ n + 1
    have := tr_le d n
    split <;> omega
def mTrim (z : Int → Int) (g : Int) : Int → Int := zs z g 1 (tr (fun p => zg z g (15 + 5 * p + 2)) (zg z g 1).toNat)
theorem mTrim_0 {z : Int → Int} {g : Int} (h : zg z g 1 = 0) : mTrim z g = z := by
  unfold mTrim
  rw [h]
  have e := zs_self z g 1
  rw [h] at e
  exact e
theorem mTrim_stop {z : Int → Int} {g : Int} (h : 0 < zg z g 1) (hh : ¬ zg z g (15 + 5 * (zg z g 1 - 1) + 2) = -6) : mTrim z g = z := by
  unfold mTrim
  obtain ⟨n, hn⟩ : ∃ n : Nat, zg z g 1 = (n : Int) + 1 := ⟨(zg z g 1 - 1).toNat, by omega⟩
  have e1 : (zg z g 1).toNat = n + 1 := by omega
  have e2 : zg z g 1 - 1 = n := by omega
  rw [e2] at hh
  rw [e1]
  have e3 : tr (fun p => zg z g (15 + 5 * p + 2)) (n + 1) = n + 1 := if_neg hh
  rw [e3]
  have e := zs_self z g 1
  rw [hn] at e
  exact e
theorem mTrim_step {z : Int → Int} {g : Int} (h : 0 < zg z g 1) (hh : zg z g (15 + 5 * (zg z g 1 - 1) + 2) = -6) : mTrim (zs z g 1 (zg z g 1 - 1)) g = mTrim z g := by
  unfold mTrim
  obtain ⟨n, hn⟩ : ∃ n : Nat, zg z g 1 = (n : Int) + 1 := ⟨(zg z g 1 - 1).toNat, by omega⟩
  have e1 : (zg z g 1).toNat = n + 1 := by omega
  have e2 : zg z g 1 - 1 = n := by omega
  rw [e2] at hh
  rw [zg_zs, e1, e2]
  have e3 : tr (fun p => zg z g (15 + 5 * p + 2)) (n + 1) = tr (fun p => zg z g (15 + 5 * p + 2)) n := if_pos hh
  have e4 : tr (fun p => zg (zs z g 1 n) g (15 + 5 * p + 2)) ((n : Int)).toNat = tr (fun p => zg z g (15 + 5 * p + 2)) n := by
    rw [Int.toNat_natCast]
    exact tr_congr (fun p h1 h2 => zg_zs_ne (by omega))
  rw [e3, e4]
  funext j
  show (if j = 7 + 60 * g + 1 then _ else (if j = 7 + 60 * g + 1 then _ else z j)) = (if j = 7 + 60 * g + 1 then _ else z j)
  split
  · rfl
  · rfl
def mRollN : Nat → (Int → Int) → Int → (Int → Int)
  | 0, z, g => mTrim z g
  | n + 1, z, g => if zg z g 0 < zg z g 1 then mRollN n (zs (zs z g 3 (zg z g 3 + (if zg z g (15 + 5 * (zg z g 1 - 1) + 2) = -6 then 0 else 1))) g 1 (zg z g 1 - 1)) g else mTrim z g
def mRoll (z : Int → Int) (g : Int) : Int → Int := mRollN 9 z g
theorem mRollN_stop {z : Int → Int} {g : Int} (h : zg z g 1 ≤ zg z g 0) : ∀ n : Nat, mRollN n z g = mTrim z g
  | 0 => rfl
  | _ + 1 => if_neg (by omega)
theorem mRollN_step {z : Int → Int} {g : Int} (h : ¬ zg z g 1 ≤ zg z g 0) (n : Nat) : mRollN (n + 1) z g = mRollN n (zs (zs z g 3 (zg z g 3 + (if zg z g (15 + 5 * (zg z g 1 - 1) + 2) = -6 then 0 else 1))) g 1 (zg z g 1 - 1)) g := if_pos (by omega)
def mCopy1 (z : Int → Int) (g p : Int) : Int → Int := itr (fun k y => zs y g (15 + 5 * p + k) (zg y g (15 + 5 * (p - 1) + k))) z 5
def mShiftN : Nat → (Int → Int) → Int → (Int → Int)
  | 0, z, _ => z
  | n + 1, z, g => mShiftN n (mCopy1 z g ((n : Int) + 1)) g
def mk1 (z : Int → Int) : Int → Int := iU z 6 (z 6 + 1)
def mk2 (z : Int → Int) (g : Int) : Int → Int := zs z g 2 (zg z g 2 % 99 + 1)
def mk3 (z : Int → Int) (g : Int) : Int → Int := zs z g (15 + 5 * 0 + 0) (z 6)
def mk4 (z : Int → Int) (g : Int) : Int → Int := zs z g (15 + 5 * 0 + 1) (zg z g 2)
def mk5 (z : Int → Int) (g d : Int) : Int → Int := zs z g (15 + 5 * 0 + 2) d
def mk6 (z : Int → Int) (g : Int) : Int → Int := zs z g (15 + 5 * 0 + 3) 0
def mk7 (z : Int → Int) (g : Int) : Int → Int := zs z g (15 + 5 * 0 + 4) (if z 1 = 1 then z 0 else 0)
def mk8 (z : Int → Int) (g : Int) : Int → Int := zs z g 1 (zg z g 1 + 1)
def mNew (z : Int → Int) (g d : Int) : Int → Int := mk8 (mk7 (mk6 (mk5 (mk4 (mk3 (mk2 (mk1 (mShiftN (zg z g 1).toNat z g)) g) g) g) g d) g) g) g
def mMake (z : Int → Int) (g d : Int) : Int → Int := mRoll (mNew z g d) g
def mDel (z : Int → Int) (g p : Int) : Int → Int := mTrim (zs (zs z g (15 + 5 * p + 2) (-6)) g 4 (zg z g 4 + 1)) g
/-- the last index with a mark -/
def fd (mk : Int → Int) (m : Int) (n : Nat) : Int := itr (fun p r => if mk p = m then p else r) (-6) n
theorem fd_rg (mk : Int → Int) (m : Int) : ∀ n : Nat, fd mk m n = -6 ∨ (0 ≤ fd mk m n ∧ fd mk m n < n)
  | 0 => Or.inl rfl
  | n + 1 => by
    show (if mk n = m then (n : Int) else fd mk m n) = -6 ∨ (0 ≤ (if mk n = m then (n : Int) else fd mk m n) ∧ (if mk n = m then (n : Int) else fd mk m n) < ((n + 1 : Nat) : Int))
    have := fd_rg mk m n
    split <;> omega
def mPlace (z : Int → Int) (g m : Int) : Int := fd (fun p => zg z g (15 + 5 * p + 0)) m (zg z g 1).toNat
theorem mPlace_rg {z : Int → Int} {g m : Int} (h : 0 ≤ zg z g 1) : mPlace z g m = -6 ∨ (0 ≤ mPlace z g m ∧ mPlace z g m < zg z g 1) := by
  have := fd_rg (fun p => zg z g (15 + 5 * p + 0)) m (zg z g 1).toNat
  unfold mPlace
  omega
def mMark (z : Int → Int) (g n : Int) : Int := if n = 1 then zg z g 5 else zg z g (7 - n)
def mTold0 (z : Int → Int) (g n : Int) : Int := if z 1 = 1 then (if mMark z g n = 0 then -6 else mPlace z g (mMark z g n)) else if n < 1 ∧ -n < zg z g 1 then -n else -6
def noHole (z : Int → Int) (g p : Int) : Int := if p = -6 ∨ zg z g (15 + 5 * p + 2) = -6 then -6 else p
def mTold (z : Int → Int) (g n : Int) : Int := noHole z g (mTold0 z g n)
theorem mTold0_rg {z : Int → Int} {g n : Int} (h : 0 ≤ zg z g 1) : mTold0 z g n = -6 ∨ (0 ≤ mTold0 z g n ∧ mTold0 z g n < zg z g 1) := by
  have := mPlace_rg (z := z) (g := g) (m := mMark z g n) h
  unfold mTold0
  split
  · split <;> omega
  · split <;> omega
theorem noHole_rg {z : Int → Int} {g p : Int} {n : Int} (h : p = -6 ∨ (0 ≤ p ∧ p < n)) : noHole z g p = -6 ∨ (0 ≤ noHole z g p ∧ noHole z g p < n) := by
  unfold noHole
  split <;> omega
theorem mTold_rg {z : Int → Int} {g n : Int} (h : 0 ≤ zg z g 1) : mTold z g n = -6 ∨ (0 ≤ mTold z g n ∧ mTold z g n < zg z g 1) := noHole_rg (mTold0_rg h)
def mStart0 (z : Int → Int) : Int → Int := iU (iU (iU z 1 1) 2 0) 0 (z 0 + 1)
def mStart (z : Int → Int) : Int → Int := itr (fun g y => zs y g 5 0) (mStart0 z) 6
def mNames1 (z : Int → Int) (g : Int) : Int → Int := itr (fun p y => zs y g (7 + p) (if p < zg y g 1 then zg y g (15 + 5 * p + 0) else 0)) z 8
def mNames (z : Int → Int) : Int → Int := itr (fun g y => mNames1 y g) z 6
def mBegin (z : Int → Int) : Int → Int := mStart (mNames z)
def mMade0 (z : Int → Int) (g : Int) : Int := if zg z g 5 = 0 ∨ ¬ z 1 = 1 then -6 else mPlace z g (zg z g 5)
def mMade (z : Int → Int) (g : Int) : Int := noHole z g (mMade0 z g)
theorem mMade_rg {z : Int → Int} {g : Int} (h : 0 ≤ zg z g 1) : mMade z g = -6 ∨ (0 ≤ mMade z g ∧ mMade z g < zg z g 1) := by
  have := mPlace_rg (z := z) (g := g) (m := zg z g 5) h
  refine noHole_rg ?_
  unfold mMade0
  split <;> omega
def mMany7 (z : Int → Int) : Int := itr (fun g n => n + (if mMade z g = -6 then 0 else 1)) 0 6
def mFail1 (z : Int → Int) (g : Int) : Int → Int := if mMade z g = -6 then z else mDel z g (mMade z g)
def mFail (z : Int → Int) (w : Int) : Int → Int := if w = 0 then itr (fun g y => mFail1 y g) z 6 else z
def mEnd0 (z : Int → Int) (w : Int) : Int → Int := iU (iU (iU z 1 0) 2 (1 - w)) 3 (z 3 + (1 - w))
def mEnd (z : Int → Int) (w : Int) : Int → Int := mEnd0 (mFail z w) w
def mHoles (z : Int → Int) (g : Int) : Int := itr (fun p n => n + (if zg z g (15 + 5 * p + 2) = -6 then 1 else 0)) 0 (zg z g 1).toNat
def mSum (z : Int → Int) (g : Int) : Int := itr (fun p n => n + (if zg z g (15 + 5 * p + 2) = -6 then 0 else zg z g (15 + 5 * p + 2))) 0 (zg z g 1).toNat
def mNameOf (z : Int → Int) (g pl : Int) : Int := if z 1 = 1 then itr (fun k r => if mTold z g (k - 7) = pl then (k - 7) + 10 else r) (-6) 9 else -6
def mAllHoles (z : Int → Int) : Int := itr (fun g n => n + mHoles z g) 0 6
def mAll (z : Int → Int) : Int := itr (fun g n => n + zg z g 1) 0 6
def mWholes (z : Int → Int) : Int := mAll z - mAllHoles z
def recP (z pa : Int → Int) (pm : Int) : Int → Int := itr (fun k y => iU y ((if pm = 6 then pm - 1 else pm) * 367 + k) (z k)) (if pm = 6 then itr (fun k y => iU y k (y (k + 367))) pa (1835 : Int).toNat else pa) (367 : Int).toNat
def recM (pm : Int) : Int := (if pm = 6 then pm - 1 else pm) + 1
