section
variable {z : Int → Int} {g s : Int} {da : Int → Int} {ne most si ro : Int}
theorem cLv_tr {d : Int → Int} : ∀ (n : Nat) (ro : Int), (n : Int) ≤ most → (∀ p : Int, 0 ≤ p → p < n → d p = da ((ne - p) % 8)) → cLv da ne most n n ro = (((tr d n : Nat) : Int), ro)
  | 0, ro, _, _ => rfl
  | n + 1, ro, hm, hd => by
    have e := hd n (by omega) (by omega)
    show (if 0 < ((n + 1 : Nat) : Int) ∧ (most < ((n + 1 : Nat) : Int) ∨ da ((ne - ((n + 1 : Nat) : Int) + 1) % 8) = -6) then cLv da ne most n (((n + 1 : Nat) : Int) - 1) (ro + (if da ((ne - ((n + 1 : Nat) : Int) + 1) % 8) = -6 then 0 else 1)) else (((n + 1 : Nat) : Int), ro)) = ((((if d n = -6 then tr d n else n + 1) : Nat) : Int), ro)
    rw [show ne - ((n + 1 : Nat) : Int) + 1 = ne - n by omega, ← e]
    by_cases h : d n = -6
    · rw [if_pos ⟨by omega, Or.inr h⟩, if_pos h, if_pos h, show ((n + 1 : Nat) : Int) - 1 = (n : Int) by omega, show ro + (0 : Int) = ro by omega]
      exact cLv_tr n ro (by omega) (fun p a b => hd p a (by omega))
    · rw [if_neg (fun q => q.2.elim (fun k => absurd k (by omega)) h), if_neg h]
theorem tr_sh {d : Int → Int} (h : ¬ d 0 = -6) : ∀ n : Nat, tr d (n + 1) = tr (fun p => d (p + 1)) n + 1
  | 0 => by
    show (if d (0 : Nat) = -6 then tr d 0 else 0 + 1) = _
    rw [if_neg (show ¬ d (0 : Nat) = -6 from h)]
    rfl
  | n + 1 => by
    show (if d ((n + 1 : Nat) : Int) = -6 then tr d (n + 1) else n + 1 + 1) = (if d ((n : Int) + 1) = -6 then tr (fun p => d (p + 1)) n else n + 1) + 1
    rw [show ((n + 1 : Nat) : Int) = (n : Int) + 1 by omega]
    by_cases e : d ((n : Int) + 1) = -6
    · rw [if_pos e, if_pos e]
      exact tr_sh h n
    · rw [if_neg e, if_neg e]
theorem trim_sim (hs : s = 0 ∨ s = 1) (h0 : 0 ≤ si) (h1 : zg z g 1 = si + s) (h3 : zg z g 3 = ro) (hm : si ≤ most) (hd : ∀ p : Int, 0 ≤ p → p < si → zg z g (15 + 5 * (p + s) + 2) = da ((ne - p) % 8)) (h17 : s = 1 → ¬ zg z g 17 = -6) : zg (mTrim z g) g 1 = (cL da ne most si ro).1 + s ∧ zg (mTrim z g) g 3 = (cL da ne most si ro).2 := by
  have e := cLv_tr (da := da) (ne := ne) (most := most) (d := fun p => zg z g (15 + 5 * (p + s) + 2)) si.toNat ro (by omega) (fun p a b => hd p a (by omega))
  rw [show ((si.toNat : Nat) : Int) = si by omega] at e
  unfold cL
  rw [e, mTrim_1, mTrim_k (by omega), h1, h3]
  refine ⟨?_, rfl⟩
  rcases hs with rfl | rfl
  · rw [show si + 0 = si by omega]
    dsimp only
    rw [show (fun p : Int => zg z g (15 + 5 * (p + 0) + 2)) = fun p => zg z g (15 + 5 * p + 2) from funext (fun p => by rw [show p + 0 = p by omega])]
    omega
  · rw [show (si + 1).toNat = si.toNat + 1 by omega, tr_sh (h17 rfl)]
    omega
theorem roll_sim (hs : s = 0 ∨ s = 1) (hm0 : 0 ≤ most) : ∀ (n : Nat) (z : Int → Int) (si ro : Int), 0 ≤ si → zg z g 1 = si + s → zg z g 0 = most + s → zg z g 3 = ro → si ≤ most + n → (∀ p : Int, 0 ≤ p → p < si → zg z g (15 + 5 * (p + s) + 2) = da ((ne - p) % 8)) → (s = 1 → ¬ zg z g 17 = -6) → zg (mRollN n z g) g 1 = (cL da ne most si ro).1 + s ∧ zg (mRollN n z g) g 3 = (cL da ne most si ro).2
  | 0, z, si, ro, h0, h1, _, h3, hm, hd, h17 => trim_sim hs h0 h1 h3 (by omega) hd h17
  | n + 1, z, si, ro, h0, h1, hk, h3, hm, hd, h17 => by
    show zg (if zg z g 0 < zg z g 1 then mRollN n (mRoll1 z g) g else mTrim z g) g 1 = _ ∧ zg (if zg z g 0 < zg z g 1 then mRollN n (mRoll1 z g) g else mTrim z g) g 3 = _
    by_cases c : si ≤ most
    · rw [if_neg (by omega)]
      exact trim_sim hs h0 h1 h3 c hd h17
    · rw [if_pos (by omega)]
      have hd' := hd (si - 1) (by omega) (by omega)
      have e : cL da ne most si ro = cL da ne most (si - 1) (ro + (if da ((ne - si + 1) % 8) = -6 then 0 else 1)) := cLv_step ⟨by omega, Or.inl (by omega)⟩
      rw [e]
      refine roll_sim hs hm0 n (mRoll1 z g) (si - 1) _ (by omega) (by rw [mRoll1_1]; omega) (by rw [mRoll1_k (by omega)]; exact hk) ?_ (by omega) (fun p a b => by rw [mRoll1_k (by omega)]; exact hd p a (by omega)) (fun q => by rw [mRoll1_k (by omega)]; exact h17 q)
      unfold mRoll1
      rw [zg_zs_ne (by omega), zg_zs, h3, h1, show si + s - 1 = si - 1 + s by omega, hd', show ne - (si - 1) = ne - si + 1 by omega]
end
/-- a group of the class and its numbers in the model's row -/
def rA (X : zGr) (y : Int → Int) : Prop := y 0 = X 0 0 ∧ y 1 = X 0 2 ∧ y 2 = nO (X 0 1) ∧ y 3 = X 0 3 ∧ y 4 = X 0 4
def rP (X : zGr) (y : Int → Int) : Prop := ∀ p : Int, 0 ≤ p → p < X 0 2 → y (15 + 5 * p + 1) = nO (X 0 1 - p) ∧ y (15 + 5 * p + 2) = X 1 ((X 0 1 - p) % 8) ∧ y (15 + 5 * p + 3) = X 2 ((X 0 1 - p) % 8) ∧ y (15 + 5 * p + 4) = X 3 ((X 0 1 - p) % 8)
def rM (m6 : Int) (X : zGr) (y : Int → Int) : Prop := ∀ p : Int, 0 ≤ p → p < X 0 2 → 1 ≤ y (15 + 5 * p + 0) ∧ y (15 + 5 * p + 0) ≤ m6 ∧ ∀ q : Int, p < q → q < X 0 2 → y (15 + 5 * q + 0) < y (15 + 5 * p + 0)
def rN (m6 : Int) (X : zGr) (y : Int → Int) : Prop := ∀ k : Int, 0 ≤ k → k < 8 → 0 ≤ y (7 + k) ∧ y (7 + k) ≤ m6 ∧ ∀ p : Int, 0 ≤ p → p < X 0 2 → (y (7 + k) = y (15 + 5 * p + 0) ↔ X 0 1 - p = X 0 5 - k)
def rJ (m6 jr : Int) (X : zGr) (y : Int → Int) : Prop := jr = 1 → (X 0 6 = 0 ∨ X 0 6 = X 0 1) ∧ (y 5 = 0 ↔ X 0 6 = 0) ∧ 0 ≤ y 5 ∧ y 5 ≤ m6 ∧ (¬ X 0 6 = 0 → 0 < X 0 2 → y 5 = y 15)
def rH (X : zGr) : Prop := 0 < X 0 2 → ¬ X 1 ((X 0 1 - X 0 2 + 1) % 8) = -6
def rB (B : Int) (X : zGr) : Prop := XIb B X ∧ X 0 2 ≤ X 0 0 ∧ X 0 5 ≤ X 0 1
def RG (B m6 jr : Int) (X : zGr) (y : Int → Int) : Prop := rA X y ∧ rP X y ∧ rM m6 X y ∧ rN m6 X y ∧ rJ m6 jr X y ∧ rH X ∧ rB B X
section
variable {B C m6 m6' jr jr' : Int} {X : zGr} {y y' : Int → Int}
theorem RG.mono (h : RG B m6 jr X y) (hy : ∀ k : Int, 0 ≤ k → k < 60 → y' k = y k) (hm : m6 ≤ m6') (hj : jr' = 1 → jr = 1) (hB : B ≤ C) : RG C m6' jr' X y' := by
  obtain ⟨⟨a0, a1, a2, a3, a4⟩, hp, hM, hN, hJ, hH, hb⟩ := h
  have hs : 0 ≤ X 0 2 ∧ X 0 2 ≤ 8 := ⟨hb.1.2.1.1, hb.1.2.1.2.1⟩
  refine ⟨⟨?_, ?_, ?_, ?_, ?_⟩, ?_, ?_, ?_, ?_, hH, ?_⟩
  · rw [hy _ (by omega) (by omega), a0]
  · rw [hy _ (by omega) (by omega), a1]
  · rw [hy _ (by omega) (by omega), a2]
  · rw [hy _ (by omega) (by omega), a3]
  · rw [hy _ (by omega) (by omega), a4]
  · intro p h0 h1
    rw [hy _ (by omega) (by omega), hy _ (by omega) (by omega), hy _ (by omega) (by omega), hy _ (by omega) (by omega)]
    exact hp p h0 h1
  · intro p h0 h1
    rw [hy _ (by omega) (by omega)]
    obtain ⟨b0, b1, b2⟩ := hM p h0 h1
    refine ⟨b0, by omega, fun q c d => ?_⟩
    rw [hy _ (by omega) (by omega)]
    exact b2 q c d
  · intro k h0 h1
    rw [hy _ (by omega) (by omega)]
    obtain ⟨b0, b1, b2⟩ := hN k h0 h1
    refine ⟨b0, by omega, fun p c d => ?_⟩
    rw [hy _ (by omega) (by omega)]
    exact b2 p c d
  · intro e
    obtain ⟨b0, b1, b2, b3, b4⟩ := hJ (hj e)
    rw [hy 5 (by omega) (by omega), hy 15 (by omega) (by omega)]
    exact ⟨b0, b1, b2, by omega, b4⟩
  · obtain ⟨⟨c1, c2, c3, c4, c5, c6⟩, c7, c8⟩ := hb
    exact ⟨⟨⟨c1.1, by omega⟩, c2, c3, c4, ⟨c5.1, by omega⟩, ⟨c6.1, by omega⟩⟩, c7, c8⟩
end
-- the place of a mark
theorem fd_some {mk : Int → Int} {m p : Int} (hp : mk p = m) (h0 : 0 ≤ p) : ∀ n : Nat, p < n → (∀ q : Int, 0 ≤ q → q < n → mk q = m → q = p) → fd mk m n = p
  | 0, h, _ => absurd h (by omega)
  | n + 1, h, hq => by
    show (if mk n = m then (n : Int) else fd mk m n) = p
    by_cases e : mk n = m
    · rw [if_pos e]
      exact hq n (by omega) (by omega) e
    · rw [if_neg e]
      refine fd_some hp h0 n ?_ (fun q a b => hq q a (by omega))
      by_cases e2 : p = n
      · rw [e2] at hp; exact absurd hp e
      · omega
theorem fd_none {mk : Int → Int} {m : Int} : ∀ n : Nat, (∀ q : Int, 0 ≤ q → q < n → ¬ mk q = m) → fd mk m n = -6
  | 0, _ => rfl
  | n + 1, hq => by
    show (if mk n = m then (n : Int) else fd mk m n) = -6
    rw [if_neg (hq n (by omega) (by omega))]
    exact fd_none n (fun q a b => hq q a (by omega))
section
variable {B m6 jr : Int} {X : zGr} {z : Int → Int} {g m sr : Int}
/-- a mark that stands at the place of a serial and nowhere else -/
theorem place_sim (h : RG B m6 jr X (zg z g)) (hm : ∀ p : Int, 0 ≤ p → p < X 0 2 → (m = zg z g (15 + 5 * p + 0) ↔ X 0 1 - p = sr)) : mPlace z g m = if X 0 1 - X 0 2 + 1 ≤ sr ∧ sr ≤ X 0 1 then X 0 1 - sr else -6 := by
  have hA := h.1
  have e1 : zg z g 1 = X 0 2 := hA.2.1
  unfold mPlace
  rw [e1]
  by_cases c : X 0 1 - X 0 2 + 1 ≤ sr ∧ sr ≤ X 0 1
  · rw [if_pos c]
    have hp := (hm (X 0 1 - sr) (by omega) (by omega)).2 (by omega)
    refine fd_some (mk := fun p => zg z g (15 + 5 * p + 0)) hp.symm (by omega) _ (by omega) (fun q a b e => ?_)
    have := (hm q a (by omega)).1 e.symm
    omega
  · rw [if_neg c]
    refine fd_none _ (fun q a b e => c ?_)
    have := (hm q a (by omega)).1 e.symm
    omega
theorem hole_sim (h : RG B m6 jr X (zg z g)) : noHole z g (if X 0 1 - X 0 2 + 1 ≤ sr ∧ sr ≤ X 0 1 then X 0 1 - sr else -6) = if thP (X 0 1) (X 0 2) (X 1) sr then X 0 1 - sr else -6 := by
  by_cases c : X 0 1 - X 0 2 + 1 ≤ sr ∧ sr ≤ X 0 1
  · rw [if_pos c]
    have hp := (h.2.1 (X 0 1 - sr) (by omega) (by omega)).2.1
    rw [show X 0 1 - (X 0 1 - sr) = sr by omega] at hp
    by_cases d : X 1 (sr % 8) = -6
    · rw [noHole_b (by rw [hp]; exact d), if_neg (fun q => q.2.2 d)]
    · rw [noHole_c (by omega) (by rw [hp]; exact d), if_pos ⟨c.1, c.2, d⟩]
  · rw [if_neg c, noHole_a rfl, if_neg (fun q => c ⟨q.1, q.2.1⟩)]
theorem mark_pos (h : RG B m6 jr X (zg z g)) (hm : ∀ p : Int, 0 ≤ p → p < X 0 2 → (m = zg z g (15 + 5 * p + 0) ↔ X 0 1 - p = sr)) (h0 : m = 0) : ¬ (X 0 1 - X 0 2 + 1 ≤ sr ∧ sr ≤ X 0 1) := by
  intro c
  have hp := (hm (X 0 1 - sr) (by omega) (by omega)).2 (by omega)
  have := (h.2.2.1 (X 0 1 - sr) (by omega) (by omega)).1
  omega
/-- the mark of the made one -/
theorem made_iff (h : RG B m6 jr X (zg z g)) (hj : jr = 1) : ∀ p : Int, 0 ≤ p → p < X 0 2 → (zg z g 5 = zg z g (15 + 5 * p + 0) ↔ X 0 1 - p = X 0 6) := by
  intro p h0 h1
  obtain ⟨c1, c2, c3, c4, c5⟩ := h.2.2.2.2.1 hj
  have hM := h.2.2.1
  have hb := h.2.2.2.2.2.2.1.2.1
  by_cases e : X 0 6 = 0
  · have := (hM p h0 h1).1
    have := c2.2 e
    omega
  · have e5 := c5 e (by omega)
    have e15 : zg z g (15 + 5 * 0 + 0) = zg z g 15 := rfl
    by_cases e0 : p = 0
    · subst e0
      omega
    · have := (hM 0 (by omega) (by omega)).2.2 p (by omega) h1
      omega
theorem told_sim {n : Int} (h : RG B m6 (z 1) X (zg z g)) (hj : jr = z 1) (h1 : jr = 0 ∨ jr = 1) (hn : -7 ≤ n ∧ n ≤ 1) : mTold z g n = if thP (X 0 1) (X 0 2) (X 1) (sOf (X 0 1) (X 0 5) (X 0 6) n jr) then X 0 1 - sOf (X 0 1) (X 0 5) (X 0 6) n jr else -6 := by
  have e1 : zg z g 1 = X 0 2 := h.1.2.1
  have hb := h.2.2.2.2.2.2.1.2.1
  unfold mTold
  rcases h1 with h1 | h1
  · have es : sOf (X 0 1) (X 0 5) (X 0 6) n jr = if n = 1 then 0 else X 0 1 + n := by
      unfold sOf
      rw [if_pos h1, if_pos h1]
    have et : mTold0 z g n = if X 0 1 - X 0 2 + 1 ≤ sOf (X 0 1) (X 0 5) (X 0 6) n jr ∧ sOf (X 0 1) (X 0 5) (X 0 6) n jr ≤ X 0 1 then X 0 1 - sOf (X 0 1) (X 0 5) (X 0 6) n jr else -6 := by
      rw [es]
      by_cases c : n < 1 ∧ -n < zg z g 1
      · have hn1 : ¬ n = 1 := by omega
        rw [told_c (by omega) c, if_neg hn1, if_pos (by omega)]
        omega
      · rw [told_d (by omega) c]
        by_cases c1 : n = 1
        · rw [if_pos c1, if_neg (fun q => by omega)]
        · rw [if_neg c1, if_neg (fun q => by omega)]
    rw [et]
    exact hole_sim h
  · have es : sOf (X 0 1) (X 0 5) (X 0 6) n jr = if n = 1 then X 0 6 else X 0 5 + n := by
      unfold sOf
      have hne : ¬ jr = 0 := by omega
      rw [if_neg hne, if_neg hne]
    have hz : z 1 = 1 := by omega
    have hm : ∀ p : Int, 0 ≤ p → p < X 0 2 → (mMark z g n = zg z g (15 + 5 * p + 0) ↔ X 0 1 - p = sOf (X 0 1) (X 0 5) (X 0 6) n jr) := by
      intro p h0 h2
      rw [es]
      unfold mMark
      by_cases c : n = 1
      · rw [if_pos c, if_pos c]
        exact made_iff h hz p h0 h2
      · rw [if_neg c, if_neg c]
        have := (h.2.2.2.1 (-n) (by omega) (by omega)).2.2 p h0 h2
        rw [show 7 + -n = 7 - n by omega, show X 0 5 - -n = X 0 5 + n by omega] at this
        exact this
    by_cases c : mMark z g n = 0
    · rw [told_a hz c, noHole_a rfl, if_neg (fun q => mark_pos h hm c ⟨q.1, q.2.1⟩)]
    · rw [told_b hz c, place_sim h hm]
      exact hole_sim h
theorem made_sim (h : RG B m6 (z 1) X (zg z g)) (hz : z 1 = 1) : mMade z g = if thP (X 0 1) (X 0 2) (X 1) (X 0 6) then X 0 1 - X 0 6 else -6 := by
  have hm := made_iff h hz
  unfold mMade
  by_cases c : zg z g 5 = 0
  · rw [made_a c, noHole_a rfl, if_neg (fun q => mark_pos h hm c ⟨q.1, q.2.1⟩)]
  · rw [made_c c hz, place_sim h hm]
    exact hole_sim h
end
-- what the class's row is when it is made shorter
theorem cLv_hole {da : Int → Int} {ne most : Int} : ∀ (n : Nat) (si ro : Int), si ≤ n → 0 < (cLv da ne most n si ro).1 → ¬ da ((ne - (cLv da ne most n si ro).1 + 1) % 8) = -6
  | 0, si, ro, h, h2 => absurd h2 (by show ¬ 0 < si; omega)
  | n + 1, si, ro, h, h2 => by
    by_cases c : 0 < si ∧ (most < si ∨ da ((ne - si + 1) % 8) = -6)
    · have e : cLv da ne most (n + 1) si ro = cLv da ne most n (si - 1) (ro + (if da ((ne - si + 1) % 8) = -6 then 0 else 1)) := if_pos c
      rw [e] at h2 ⊢
      exact cLv_hole n _ _ (by omega) h2
    · rw [cLv_stop c] at h2 ⊢
      exact fun q => c ⟨h2, Or.inr q⟩
theorem cL_hole {da : Int → Int} {ne most si ro : Int} (h : 0 < (cL da ne most si ro).1) : ¬ da ((ne - (cL da ne most si ro).1 + 1) % 8) = -6 := cLv_hole _ _ _ (by omega) h
theorem cL_most {da : Int → Int} {ne most si ro : Int} (h : 0 ≤ most) (hs : 0 ≤ si) : (cL da ne most si ro).1 ≤ most := by
  have := cLv_most (da := da) (ne := ne) h si.toNat si ro (by omega)
  have h2 := cL_rg (da := da) (ne := ne) (most := most) (ro := ro) hs
  unfold cL at h2 ⊢
  omega
theorem nO_step {x : Int} (h : 0 ≤ x) : nO (x + 1) = nO x % 99 + 1 := by
  unfold nO
  rw [if_neg (by omega)]
  split <;> omega
section
variable {B m6 jr ke si ro de : Int} {X : zGr} {y y' : Int → Int}
theorem shrink (hp : rP X y) (hM : rM m6 X y) (hN : rN m6 X y) (hJ : rJ m6 jr X y) (hb : XIb B X) (hnj : X 0 5 ≤ X 0 1) (h2 : y 2 = nO (X 0 1)) (hy : ∀ k : Int, (k = 2 ∨ 5 ≤ k) → k < 60 → y' k = y k) (e0 : y' 0 = ke) (e1 : y' 1 = si) (e3 : y' 3 = ro) (e4 : y' 4 = de) (hs : 0 ≤ si ∧ si ≤ X 0 2) (hk : 1 ≤ ke ∧ ke ≤ 8) (hsk : si ≤ ke) (hh : 0 < si → ¬ X 1 ((X 0 1 - si + 1) % 8) = -6) : RG B m6 jr (mkG ke (X 0 1) si ro de (X 0 5) (X 0 6) (X 1) (X 2) (X 3)) y' := by
  have hb2 : X 0 2 ≤ 8 := hb.2.1.2.1
  refine ⟨⟨e0, e1, (hy 2 (by omega) (by omega)).trans h2, e3, e4⟩, ?_, ?_, ?_, ?_, hh, ⟨⟨hb.1, ⟨hs.1, by show si ≤ 8; omega, by show si ≤ X 0 1; have := hb.2.1.2.2; omega⟩, hb.2.2.1, hk, hb.2.2.2.2⟩, hsk, hnj⟩⟩
  · intro p h0 h1
    have h1 : p < si := h1
    rw [hy _ (by omega) (by omega), hy _ (by omega) (by omega), hy _ (by omega) (by omega), hy _ (by omega) (by omega)]
    exact hp p h0 (by omega)
  · intro p h0 h1
    have h1 : p < si := h1
    rw [hy _ (by omega) (by omega)]
    obtain ⟨b0, b1, b2⟩ := hM p h0 (by omega)
    refine ⟨b0, by omega, fun q c d => ?_⟩
    have d : q < si := d
    rw [hy _ (by omega) (by omega)]
    exact b2 q c (by omega)
  · intro k h0 h1
    rw [hy _ (by omega) (by omega)]
    obtain ⟨b0, b1, b2⟩ := hN k h0 h1
    refine ⟨b0, by omega, fun p c d => ?_⟩
    have d : p < si := d
    rw [hy _ (by omega) (by omega)]
    exact b2 p c (by omega)
  · intro e
    obtain ⟨b0, b1, b2, b3, b4⟩ := hJ e
    rw [hy 5 (by omega) (by omega), hy 15 (by omega) (by omega)]
    exact ⟨b0, b1, b2, by omega, fun q r => b4 q (by have r : 0 < si := r; omega)⟩
end
section
variable {B jr g : Int} {X : zGr} {z : Int → Int}
theorem keep_sim {m6 k : Int} (h : RG B m6 jr X (zg z g)) (hk : 1 ≤ k ∧ k ≤ 8) : RG B m6 jr (xK X k) (zg (mRoll (zs z g 0 k) g) g) := by
  obtain ⟨⟨a0, a1, a2, a3, a4⟩, hp, hM, hN, hJ, hH, hb⟩ := h
  have hsi := hb.1.2.1
  have hr := roll_sim (g := g) (da := X 1) (ne := X 0 1) (most := k) (s := 0) (Or.inl rfl) (by omega) 9 (zs z g 0 k) (X 0 2) (X 0 3) hsi.1 (by rw [zg_zs_ne (by omega), a1]; omega) (by rw [zg_zs]; omega) (by rw [zg_zs_ne (by omega), a3]) (by omega) (fun p c d => by rw [zg_zs_ne (by omega), show p + 0 = p by omega]; exact (hp p c d).2.1) (fun q => absurd q (by omega))
  have hc := cL_rg (da := X 1) (ne := X 0 1) (most := k) (ro := X 0 3) hsi.1
  have hy : ∀ j : Int, j ≠ 0 ∧ j ≠ 1 ∧ j ≠ 3 → zg (mRoll (zs z g 0 k) g) g j = zg z g j := fun j hj => by
    unfold mRoll
    rw [mRollN_k (by omega), zg_zs_ne (by omega)]
  refine shrink hp hM hN hJ hb.1 hb.2.2 a2 (fun j c d => hy j (by omega)) ?_ (hr.1.trans (by omega)) hr.2 (by rw [hy 4 (by omega), a4]) hc hk (cL_most (by omega) hsi.1) cL_hole
  unfold mRoll
  rw [mRollN_k (by omega), zg_zs]
theorem hole_step {m6 sr : Int} (h : RG B m6 jr X (zg z g)) (ht : thP (X 0 1) (X 0 2) (X 1) sr) : RG B m6 jr (xHo X sr) (zg (mDel z g (X 0 1 - sr)) g) := by
  obtain ⟨⟨a0, a1, a2, a3, a4⟩, hp, hM, hN, hJ, hH, hb⟩ := h
  have hsi := hb.1.2.1
  have hke := hb.2.1
  have hbk := hb.1.2.2.2.1
  have hbn := hb.2.2
  have hbx := hb.1
  have ht1 := ht.1
  have ht2 := ht.2.1
  have e0 : ∀ k : Int, k ≠ 1 ∧ k ≠ 4 ∧ k ≠ 15 + 5 * (X 0 1 - sr) + 2 → zg (mDel z g (X 0 1 - sr)) g k = zg z g k := fun k hk => mDel_k hk
  have hp1 : ∀ p : Int, 0 ≤ p → p < X 0 2 → zg (zs (zs z g (15 + 5 * (X 0 1 - sr) + 2) (-6)) g 4 (zg z g 4 + 1)) g (15 + 5 * p + 2) = iU (X 1) (sr % 8) (-6) ((X 0 1 - p) % 8) := by
    intro p c d
    rw [zg_zs_ne (by omega)]
    by_cases e : p = X 0 1 - sr
    · subst e
      rw [zg_zs, show X 0 1 - (X 0 1 - sr) = sr by omega, iU_same]
    · rw [zg_zs_ne (by omega), iU_ne (by omega)]
      exact (hp p c d).2.1
  have hr := trim_sim (g := g) (z := zs (zs z g (15 + 5 * (X 0 1 - sr) + 2) (-6)) g 4 (zg z g 4 + 1)) (da := iU (X 1) (sr % 8) (-6)) (ne := X 0 1) (most := X 0 0) (si := X 0 2) (ro := X 0 3) (s := 0) (Or.inl rfl) hsi.1 (by rw [zg_zs_ne (by omega), zg_zs_ne (by omega), a1]; omega) (by rw [zg_zs_ne (by omega), zg_zs_ne (by omega), a3]) hke (fun p c d => by rw [show p + 0 = p by omega]; exact hp1 p c d) (fun q => absurd q (by omega))
  have hc := cL_rg (da := iU (X 1) (sr % 8) (-6)) (ne := X 0 1) (most := X 0 0) (ro := X 0 3) hsi.1
  have hq : rP (mkG (X 0 0) (X 0 1) (X 0 2) (X 0 3) (X 0 4) (X 0 5) (X 0 6) (iU (X 1) (sr % 8) (-6)) (X 2) (X 3)) (fun k => if k = 15 + 5 * (X 0 1 - sr) + 2 then -6 else zg z g k) := by
    intro p c d
    have d : p < X 0 2 := d
    have h1 := hp1 p c d
    rw [zg_zs_ne (by omega)] at h1
    refine ⟨?_, ?_, ?_, ?_⟩
    · show (if 15 + 5 * p + 1 = 15 + 5 * (X 0 1 - sr) + 2 then _ else _) = _
      rw [if_neg (by omega)]
      exact (hp p c d).1
    · show (if 15 + 5 * p + 2 = 15 + 5 * (X 0 1 - sr) + 2 then _ else _) = iU (X 1) (sr % 8) (-6) ((X 0 1 - p) % 8)
      by_cases e : p = X 0 1 - sr
      · rw [if_pos (by omega), e, show X 0 1 - (X 0 1 - sr) = sr by omega, iU_same]
      · rw [if_neg (by omega), iU_ne (by omega)]
        exact (hp p c d).2.1
    · show (if 15 + 5 * p + 3 = 15 + 5 * (X 0 1 - sr) + 2 then _ else _) = _
      rw [if_neg (by omega)]
      exact (hp p c d).2.2.1
    · show (if 15 + 5 * p + 4 = 15 + 5 * (X 0 1 - sr) + 2 then _ else _) = _
      rw [if_neg (by omega)]
      exact (hp p c d).2.2.2
  have hM2 : rM m6 (mkG (X 0 0) (X 0 1) (X 0 2) (X 0 3) (X 0 4) (X 0 5) (X 0 6) (iU (X 1) (sr % 8) (-6)) (X 2) (X 3)) (fun k => if k = 15 + 5 * (X 0 1 - sr) + 2 then -6 else zg z g k) := by
    intro p c d
    obtain ⟨b0, b1, b2⟩ := hM p c d
    show 1 ≤ (if 15 + 5 * p + 0 = 15 + 5 * (X 0 1 - sr) + 2 then _ else _) ∧ (if 15 + 5 * p + 0 = 15 + 5 * (X 0 1 - sr) + 2 then _ else _) ≤ m6 ∧ ∀ q : Int, p < q → q < X 0 2 → (if 15 + 5 * q + 0 = 15 + 5 * (X 0 1 - sr) + 2 then _ else _) < (if 15 + 5 * p + 0 = 15 + 5 * (X 0 1 - sr) + 2 then _ else _)
    rw [if_neg (by omega)]
    refine ⟨b0, b1, fun q e f => ?_⟩
    rw [if_neg (by omega)]
    exact b2 q e f
  have hN2 : rN m6 (mkG (X 0 0) (X 0 1) (X 0 2) (X 0 3) (X 0 4) (X 0 5) (X 0 6) (iU (X 1) (sr % 8) (-6)) (X 2) (X 3)) (fun k => if k = 15 + 5 * (X 0 1 - sr) + 2 then -6 else zg z g k) := by
    intro k c d
    obtain ⟨b0, b1, b2⟩ := hN k c d
    show 0 ≤ (if 7 + k = 15 + 5 * (X 0 1 - sr) + 2 then _ else _) ∧ (if 7 + k = 15 + 5 * (X 0 1 - sr) + 2 then _ else _) ≤ m6 ∧ ∀ p : Int, 0 ≤ p → p < X 0 2 → ((if 7 + k = 15 + 5 * (X 0 1 - sr) + 2 then _ else _) = (if 15 + 5 * p + 0 = 15 + 5 * (X 0 1 - sr) + 2 then _ else _) ↔ _)
    rw [if_neg (by omega)]
    refine ⟨b0, b1, fun q e f => ?_⟩
    rw [if_neg (by omega)]
    exact b2 q e f
  have hJ2 : rJ m6 jr (mkG (X 0 0) (X 0 1) (X 0 2) (X 0 3) (X 0 4) (X 0 5) (X 0 6) (iU (X 1) (sr % 8) (-6)) (X 2) (X 3)) (fun k => if k = 15 + 5 * (X 0 1 - sr) + 2 then -6 else zg z g k) := by
    intro e
    have := hJ e
    show _ ∧ ((if (5 : Int) = 15 + 5 * (X 0 1 - sr) + 2 then _ else _) = _ ↔ _) ∧ 0 ≤ (if (5 : Int) = 15 + 5 * (X 0 1 - sr) + 2 then _ else _) ∧ (if (5 : Int) = 15 + 5 * (X 0 1 - sr) + 2 then _ else _) ≤ m6 ∧ (_ → _ → (if (5 : Int) = 15 + 5 * (X 0 1 - sr) + 2 then _ else _) = (if (15 : Int) = 15 + 5 * (X 0 1 - sr) + 2 then _ else _))
    rw [if_neg (by omega), if_neg (by omega)]
    exact this
  refine shrink (X := mkG (X 0 0) (X 0 1) (X 0 2) (X 0 3) (X 0 4) (X 0 5) (X 0 6) (iU (X 1) (sr % 8) (-6)) (X 2) (X 3)) (y := fun k => if k = 15 + 5 * (X 0 1 - sr) + 2 then -6 else zg z g k) hq hM2 hN2 hJ2 (XIb_xDa (sr := sr) hbx ⟨by omega, by omega⟩) hbn ?_ ?_ (by rw [e0 0 (by omega), a0]) (hr.1.trans (by omega)) hr.2 ?_ hc hbk (cL_most (by omega) hsi.1) cL_hole
  · show (if (2 : Int) = 15 + 5 * (X 0 1 - sr) + 2 then _ else _) = _
    rw [if_neg (by omega)]
    exact a2
  · intro k c d
    show _ = (if k = 15 + 5 * (X 0 1 - sr) + 2 then _ else _)
    split
    · rename_i e
      unfold mDel
      rw [mTrim_k (by omega), zg_zs_ne (by omega), e, zg_zs]
    · exact e0 k (by omega)
  · unfold mDel
    rw [mTrim_k (by omega), zg_zs, a4]
end
section
variable {B jr g : Int} {X : zGr} {z : Int → Int}
theorem data_sim {m6 sr d : Int} (h : RG B m6 jr X (zg z g)) (ht : thP (X 0 1) (X 0 2) (X 1) sr) (hd : 0 ≤ d ∧ d ≤ 9999) : RG B m6 jr (xDa X sr d) (zg (zs z g (15 + 5 * (X 0 1 - sr) + 2) d) g) := by
  obtain ⟨⟨a0, a1, a2, a3, a4⟩, hp, hM, hN, hJ, hH, hb⟩ := h
  have hsi := hb.1.2.1
  have ht1 := ht.1
  have ht2 := ht.2.1
  refine ⟨⟨?_, ?_, ?_, ?_, ?_⟩, ?_, ?_, ?_, ?_, ?_, ⟨XIb_xDa hb.1 ⟨by omega, by omega⟩, hb.2⟩⟩
  · rw [zg_zs_ne (by omega)]; exact a0
  · rw [zg_zs_ne (by omega)]; exact a1
  · rw [zg_zs_ne (by omega)]; exact a2
  · rw [zg_zs_ne (by omega)]; exact a3
  · rw [zg_zs_ne (by omega)]; exact a4
  · intro p c e
    have e : p < X 0 2 := e
    rw [zg_zs_ne (by omega), zg_zs_ne (k' := 15 + 5 * p + 3) (by omega), zg_zs_ne (k' := 15 + 5 * p + 4) (by omega)]
    obtain ⟨q1, q2, q3, q4⟩ := hp p c e
    refine ⟨q1, ?_, q3, q4⟩
    show _ = iU (X 1) (sr % 8) d ((X 0 1 - p) % 8)
    by_cases f : p = X 0 1 - sr
    · rw [f, zg_zs, show X 0 1 - (X 0 1 - sr) = sr by omega, iU_same]
    · rw [zg_zs_ne (by omega), iU_ne (by omega)]
      exact q2
  · intro p c e
    have e : p < X 0 2 := e
    rw [zg_zs_ne (by omega)]
    obtain ⟨q1, q2, q3⟩ := hM p c e
    refine ⟨q1, q2, fun q f i => ?_⟩
    rw [zg_zs_ne (by omega)]
    exact q3 q f i
  · intro k c e
    rw [zg_zs_ne (by omega)]
    obtain ⟨q1, q2, q3⟩ := hN k c e
    refine ⟨q1, q2, fun q f i => ?_⟩
    rw [zg_zs_ne (by omega)]
    exact q3 q f i
  · intro e
    rw [zg_zs_ne (k' := 5) (by omega), zg_zs_ne (k' := 15) (by omega)]
    exact hJ e
  · intro e
    have e : 0 < X 0 2 := e
    show ¬ iU (X 1) (sr % 8) d ((X 0 1 - X 0 2 + 1) % 8) = -6
    by_cases f : sr = X 0 1 - X 0 2 + 1
    · rw [f, iU_same]; omega
    · rw [iU_ne (by omega)]
      exact hH e
theorem read_sim {m6 sr : Int} (h : RG B m6 jr X (zg z g)) (ht : thP (X 0 1) (X 0 2) (X 1) sr) : RG B m6 jr (xRe X sr) (zg (zs z g (15 + 5 * (X 0 1 - sr) + 3) (zg z g (15 + 5 * (X 0 1 - sr) + 3) + 1)) g) := by
  obtain ⟨⟨a0, a1, a2, a3, a4⟩, hp, hM, hN, hJ, hH, hb⟩ := h
  have hsi := hb.1.2.1
  have ht1 := ht.1
  have ht2 := ht.2.1
  refine ⟨⟨?_, ?_, ?_, ?_, ?_⟩, ?_, ?_, ?_, ?_, hH, hb⟩
  · rw [zg_zs_ne (by omega)]; exact a0
  · rw [zg_zs_ne (by omega)]; exact a1
  · rw [zg_zs_ne (by omega)]; exact a2
  · rw [zg_zs_ne (by omega)]; exact a3
  · rw [zg_zs_ne (by omega)]; exact a4
  · intro p c e
    have e : p < X 0 2 := e
    rw [zg_zs_ne (by omega), zg_zs_ne (k' := 15 + 5 * p + 2) (by omega), zg_zs_ne (k' := 15 + 5 * p + 4) (by omega)]
    obtain ⟨q1, q2, q3, q4⟩ := hp p c e
    refine ⟨q1, q2, ?_, q4⟩
    show _ = iU (X 2) (sr % 8) (X 2 (sr % 8) + 1) ((X 0 1 - p) % 8)
    by_cases f : p = X 0 1 - sr
    · have q3' := (hp (X 0 1 - sr) (by omega) (by omega)).2.2.1
      rw [show X 0 1 - (X 0 1 - sr) = sr by omega] at q3'
      rw [f, zg_zs, q3', show X 0 1 - (X 0 1 - sr) = sr by omega, iU_same]
    · rw [zg_zs_ne (by omega), iU_ne (by omega)]
      exact q3
  · intro p c e
    have e : p < X 0 2 := e
    rw [zg_zs_ne (by omega)]
    obtain ⟨q1, q2, q3⟩ := hM p c e
    refine ⟨q1, q2, fun q f i => ?_⟩
    rw [zg_zs_ne (by omega)]
    exact q3 q f i
  · intro k c e
    rw [zg_zs_ne (by omega)]
    obtain ⟨q1, q2, q3⟩ := hN k c e
    refine ⟨q1, q2, fun q f i => ?_⟩
    rw [zg_zs_ne (by omega)]
    exact q3 q f i
  · intro e
    rw [zg_zs_ne (k' := 5) (by omega), zg_zs_ne (k' := 15) (by omega)]
    exact hJ e
/-- one more is made -/
theorem make_sim {d j : Int} (h : RG B (z 6) jr X (zg z g)) (hg : 0 ≤ g) (hd : 0 ≤ d ∧ d ≤ 9999) (hj : j = if z 1 = 1 then z 0 else 0) {y : Int → Int} (hy : ∀ k : Int, k ≠ 5 → y k = zg (mMake z g d) g k) (h5 : jr = 1 → y 5 = z 6 + 1) (h6 : 0 ≤ z 6) : RG (B + 1) (z 6 + 1) jr (xMk X d j) y := by
  obtain ⟨⟨a0, a1, a2, a3, a4⟩, hp, hM, hN, hJ, hH, hb⟩ := h
  have hsi := hb.1.2.1
  have hke := hb.2.1
  have hbk := hb.1.2.2.2.1
  have hbn := hb.2.2
  have hne := hb.1.1
  have hr := roll_sim (g := g) (da := X 1) (ne := X 0 1) (most := X 0 0 - 1) (s := 1) (Or.inr rfl) (by omega) 9 (mNew z g d) (X 0 2) (X 0 3) hsi.1 (by rw [mNew_1 hg, a1]) (by rw [mNew_k hg (by omega), a0]; omega) (by rw [mNew_k hg (by omega), a3]) (by omega) (fun p c e => by rw [mNew_old hg (by omega) (by omega)]; exact (hp p c e).2.1) (fun _ => by rw [mNew_data hg]; omega)
  have hc := cL_rg (da := X 1) (ne := X 0 1) (most := X 0 0 - 1) (ro := X 0 3) hsi.1
  have hm := cL_most (da := X 1) (ne := X 0 1) (most := X 0 0 - 1) (si := X 0 2) (ro := X 0 3) (by omega) hsi.1
  have e3 : ∀ k : Int, k ≠ 1 ∧ k ≠ 3 ∧ k ≠ 5 → y k = zg (mNew z g d) g k := fun k hk => by rw [hy k (by omega), mMake_k (by omega)]
  have eold : ∀ p i : Int, 0 ≤ p → p < X 0 2 → 0 ≤ i ∧ i < 5 → y (15 + 5 * (p + 1) + i) = zg z g (15 + 5 * p + i) := fun p i c e f => by rw [e3 _ (by omega), mNew_old hg (by omega) f]
  have e15 : y 15 = z 6 + 1 := by rw [e3 15 (by omega), mNew_mark hg]
  have esi : xMk X d j 0 2 = (cL (X 1) (X 0 1) (X 0 0 - 1) (X 0 2) (X 0 3)).1 + 1 := rfl
  have ene : xMk X d j 0 1 = X 0 1 + 1 := rfl
  refine ⟨⟨?_, ?_, ?_, ?_, ?_⟩, ?_, ?_, ?_, ?_, ?_, ⟨XIb_xMk hb.1 ⟨by omega, by omega⟩, ?_, ?_⟩⟩
  · rw [e3 0 (by omega), mNew_k hg (by omega)]; exact a0
  · rw [hy 1 (by omega)]; exact hr.1
  · rw [e3 2 (by omega), mNew_2 hg, a2]
    exact (nO_step hne.1).symm
  · rw [hy 3 (by omega)]; exact hr.2
  · rw [e3 4 (by omega), mNew_k hg (by omega)]; exact a4
  · intro p c e
    rw [esi] at e
    show y (15 + 5 * p + 1) = nO (X 0 1 + 1 - p) ∧ y (15 + 5 * p + 2) = iU (X 1) ((X 0 1 + 1) % 8) d ((X 0 1 + 1 - p) % 8) ∧ y (15 + 5 * p + 3) = iU (X 2) ((X 0 1 + 1) % 8) 0 ((X 0 1 + 1 - p) % 8) ∧ y (15 + 5 * p + 4) = iU (X 3) ((X 0 1 + 1) % 8) j ((X 0 1 + 1 - p) % 8)
    by_cases f : p = 0
    · subst f
      rw [show X 0 1 + 1 - 0 = X 0 1 + 1 by omega, iU_same, iU_same, iU_same]
      refine ⟨?_, ?_, ?_, ?_⟩
      · show y 16 = _
        rw [e3 16 (by omega), mNew_num hg, a2]
        exact (nO_step hne.1).symm
      · show y 17 = _
        rw [e3 17 (by omega), mNew_data hg]
      · show y 18 = _
        rw [e3 18 (by omega), mNew_read hg]
      · show y 19 = _
        rw [e3 19 (by omega), mNew_job hg, hj]
    · obtain ⟨q1, q2, q3, q4⟩ := hp (p - 1) (by omega) (by omega)
      have o1 := eold (p - 1) 1 (by omega) (by omega) (by omega)
      have o2 := eold (p - 1) 2 (by omega) (by omega) (by omega)
      have o3 := eold (p - 1) 3 (by omega) (by omega) (by omega)
      have o4 := eold (p - 1) 4 (by omega) (by omega) (by omega)
      rw [show p - 1 + 1 = p by omega] at o1 o2 o3 o4
      rw [show X 0 1 - (p - 1) = X 0 1 + 1 - p by omega] at q1 q2 q3 q4
      rw [iU_ne (by omega), iU_ne (by omega), iU_ne (by omega), o1, o2, o3, o4]
      exact ⟨q1, q2, q3, q4⟩
  · intro p c e
    rw [esi] at e
    by_cases f : p = 0
    · subst f
      show 1 ≤ y 15 ∧ y 15 ≤ z 6 + 1 ∧ ∀ q : Int, 0 < q → q < _ → _ < y 15
      rw [e15]
      refine ⟨by omega, by omega, fun q f i => ?_⟩
      rw [esi] at i
      have o := eold (q - 1) 0 (by omega) (by omega) (by omega)
      rw [show q - 1 + 1 = q by omega] at o
      have := (hM (q - 1) (by omega) (by omega)).2.1
      omega
    · have o := eold (p - 1) 0 (by omega) (by omega) (by omega)
      rw [show p - 1 + 1 = p by omega] at o
      obtain ⟨q1, q2, q3⟩ := hM (p - 1) (by omega) (by omega)
      rw [o]
      refine ⟨q1, by omega, fun q f i => ?_⟩
      rw [esi] at i
      have o' := eold (q - 1) 0 (by omega) (by omega) (by omega)
      rw [show q - 1 + 1 = q by omega] at o'
      rw [o']
      exact q3 (q - 1) (by omega) (by omega)
  · intro k c e
    obtain ⟨q1, q2, q3⟩ := hN k c e
    rw [e3 (7 + k) (by omega), mNew_k hg (by omega)]
    refine ⟨q1, by omega, fun p f i => ?_⟩
    rw [esi] at i
    show _ ↔ X 0 1 + 1 - p = X 0 5 - k
    by_cases p0 : p = 0
    · subst p0
      have : y (15 + 5 * 0 + 0) = y 15 := rfl
      omega
    · have o := eold (p - 1) 0 (by omega) (by omega) (by omega)
      rw [show p - 1 + 1 = p by omega] at o
      have := q3 (p - 1) (by omega) (by omega)
      rw [o]
      omega
  · intro e
    show (X 0 1 + 1 = 0 ∨ X 0 1 + 1 = X 0 1 + 1) ∧ (y 5 = 0 ↔ X 0 1 + 1 = 0) ∧ 0 ≤ y 5 ∧ y 5 ≤ z 6 + 1 ∧ (¬ X 0 1 + 1 = 0 → _ → y 5 = y 15)
    have := h5 e
    rw [e15]
    exact ⟨Or.inr rfl, by omega, by omega, by omega, fun _ _ => this⟩
  · intro e
    rw [esi, ene]
    show ¬ iU (X 1) ((X 0 1 + 1) % 8) d ((X 0 1 + 1 - ((cL (X 1) (X 0 1) (X 0 0 - 1) (X 0 2) (X 0 3)).1 + 1) + 1) % 8) = -6
    by_cases f : (cL (X 1) (X 0 1) (X 0 0 - 1) (X 0 2) (X 0 3)).1 = 0
    · rw [f, show X 0 1 + 1 - (0 + 1) + 1 = X 0 1 + 1 by omega, iU_same]
      omega
    · rw [iU_ne (by omega), show X 0 1 + 1 - ((cL (X 1) (X 0 1) (X 0 0 - 1) (X 0 2) (X 0 3)).1 + 1) + 1 = X 0 1 - (cL (X 1) (X 0 1) (X 0 0 - 1) (X 0 2) (X 0 3)).1 + 1 by omega]
      exact cL_hole (by omega)
  · show (cL (X 1) (X 0 1) (X 0 0 - 1) (X 0 2) (X 0 3)).1 + 1 ≤ X 0 0
    omega
  · show X 0 5 ≤ X 0 1 + 1
    omega
end
