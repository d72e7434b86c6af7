section
variable {B C jb jr lf jf rd vr g : Int} {G : Int → zGr} {z z' : Int → Int}
theorem RS.le (h : RS B jb jr lf jf rd vr G z) (hB : B ≤ C) : RS C jb jr lf jf rd vr G z := by
  obtain ⟨r1, r2, r3, r4⟩ := h
  exact ⟨r1, ⟨r2.1, r2.2.1, r2.2.2.1, by omega⟩, r3.le hB, fun g a b => (r4 g a b).mono (fun _ _ _ => rfl) (Int.le_refl _) (fun q => q) hB⟩
theorem RS_hd {rd' vr' : Int} (h : RS B jb jr lf jf rd vr G z) (hz : ∀ j : Int, (j < 4 ∨ 6 ≤ j) → z' j = z j) (h4 : z' 4 = rd') (h5 : z' 5 = vr') (hMI : MIb B z') : RS B jb jr lf jf rd' vr' G z' := by
  obtain ⟨⟨a0, a1, a2, a3, a4, a5⟩, hb, hm, hr⟩ := h
  refine ⟨⟨by rw [hz 0 (by omega), a0], by rw [hz 1 (by omega), a1], fun e => by rw [hz 2 (by omega), a2 e], by rw [hz 3 (by omega), a3], h4, h5⟩, hb, hMI, fun g' c d => ?_⟩
  rw [hz 1 (by omega), hz 6 (by omega)]
  exact (hr g' c d).mono (fun k i j => hz _ (by omega)) (Int.le_refl _) (fun q => q) (Int.le_refl _)
theorem s_r1 (h : RS B jb jr lf jf rd vr G z) : RS B jb jr lf jf (rd + 1) vr G (mR1 z) := by
  have h4 := h.1.2.2.2.2.1
  have h5 := h.1.2.2.2.2.2
  refine RS_hd h (fun j hj => iU_ne (by omega)) ?_ ?_ (MIb_hd h.2.2.1 (by omega))
  · show iU z 4 (z 4 + 1) 4 = _
    rw [iU_same, h4]
  · show iU z 4 (z 4 + 1) 5 = _
    rw [iU_ne (by omega), h5]
theorem s_rd {sr : Int} (h : RS B jb jr lf jf rd vr G z) (hg : 0 ≤ g ∧ g ≤ 5) (ht : thP (G g 0 1) (G g 0 2) (G g 1) sr) : RS B jb jr lf jf rd vr (gU G g (xRe (G g) sr)) (zs z g (15 + 5 * (G g 0 1 - sr) + 3) (zg z g (15 + 5 * (G g 0 1 - sr) + 3) + 1)) := by
  have hb := (h.rg hg).2.2.2.2.2.2.1.2.1
  have ht1 := ht.1
  have ht2 := ht.2.1
  have hh : ∀ j : Int, j < 7 → zs z g (15 + 5 * (G g 0 1 - sr) + 3) (zg z g (15 + 5 * (G g 0 1 - sr) + 3) + 1) j = z j := fun j hj => zs_hd hg.1 (by omega) hj
  refine RS_grp h hg (Int.le_refl _) (fun j hj => hh j (by omega)) ((hh 4 (by omega)).trans h.1.2.2.2.2.1) ((hh 5 (by omega)).trans h.1.2.2.2.2.2) (by rw [hh 6 (by omega)]; omega) (MIb_zs h.2.2.1 hg (by omega) (by omega) (fun q => absurd q (by omega))) (fun g' k' e c i j => zg_zs_g e (by omega) ⟨i, j⟩) ?_
  rw [hh 6 (by omega)]
  exact read_sim (h.rg hg) ht
theorem s_read {n : Int} (h : RS B jb jr lf jf rd vr G z) (hg : 0 ≤ g ∧ g ≤ 5) (hn : -7 ≤ n ∧ n ≤ 1) : RS B jb jr lf jf (rd + 1) (if ¬ thP (G g 0 1) (G g 0 2) (G g 1) (sOf (G g 0 1) (G g 0 5) (G g 0 6) n jr) then vr + 1 else vr) (if thP (G g 0 1) (G g 0 2) (G g 1) (sOf (G g 0 1) (G g 0 5) (G g 0 6) n jr) then gU G g (xRe (G g) (sOf (G g 0 1) (G g 0 5) (G g 0 6) n jr)) else G) (mRead z g n) ∧ mReadR z g n = (if thP (G g 0 1) (G g 0 2) (G g 1) (sOf (G g 0 1) (G g 0 5) (G g 0 6) n jr) then G g 1 ((sOf (G g 0 1) (G g 0 5) (G g 0 6) n jr) % 8) else -6) := by
  have h1 := s_r1 h
  have ht := s_told h1 hg hn
  have hb := (h.rg hg).2.2.2.2.2.2.1.2.1
  by_cases c : thP (G g 0 1) (G g 0 2) (G g 1) (sOf (G g 0 1) (G g 0 5) (G g 0 6) n jr)
  · have ht1 := c.1
    have ht2 := c.2.1
    rw [if_pos c] at ht
    rw [if_pos c, if_neg (fun q => q c), if_pos c]
    have e : ¬ mTold (mR1 z) g n = -6 := by rw [ht]; omega
    have er : mRead z g n = zs (mR1 z) g (15 + 5 * (G g 0 1 - sOf (G g 0 1) (G g 0 5) (G g 0 6) n jr) + 3) (zg (mR1 z) g (15 + 5 * (G g 0 1 - sOf (G g 0 1) (G g 0 5) (G g 0 6) n jr) + 3) + 1) := by
      unfold mRead
      rw [if_neg e, ht]
    refine ⟨?_, ?_⟩
    · rw [er]
      exact s_rd h1 hg c
    · unfold mReadR
      rw [if_neg e, er, ht, zg_zs_ne (by omega), ((h1.rg hg).2.1 _ (by omega) (by omega)).2.1]
      rw [show G g 0 1 - (G g 0 1 - sOf (G g 0 1) (G g 0 5) (G g 0 6) n jr) = sOf (G g 0 1) (G g 0 5) (G g 0 6) n jr by omega]
  · rw [if_neg c] at ht
    rw [if_neg c, if_pos c, if_neg c]
    have er : mRead z g n = iU (mR1 z) 5 ((mR1 z) 5 + 1) := by
      unfold mRead
      rw [if_pos ht]
    refine ⟨?_, ?_⟩
    · rw [er]
      refine RS_hd h1 (fun j hj => iU_ne (by omega)) ?_ ?_ (MIb_hd h1.2.2.1 (by omega))
      · rw [iU_ne (by omega)]; exact h1.1.2.2.2.2.1
      · rw [iU_same]; rw [h1.1.2.2.2.2.2]
    · unfold mReadR
      rw [if_pos ht]
/-- a job begins: what it makes is nothing yet -/
theorem s_st0 (h : RS B jb jr lf jf rd vr G z) : RS (B + 1) (jb + 1) 1 lf jf rd vr (sSt G) (mStart z) := by
  obtain ⟨⟨a0, a1, a2, a3, a4, a5⟩, ⟨b1, b2, b3, b4⟩, hm, hr⟩ := h
  have hl := loop_sim (R := fun X y => RG B (z 6) 0 X y) (R' := fun X y => RG B (z 6) 1 X y) (f := fun g Y => gU Y g (xM0 (Y g))) (F := fun g y => zs y g 5 0) (I := fun y => ∀ j : Int, j < 7 → y j = mStart0 z j)
    (fun X y y' q r => RG.mono q r (Int.le_refl _) (fun q => q) (Int.le_refl _)) (fun X y y' q r => RG.mono q r (Int.le_refl _) (fun q => q) (Int.le_refl _))
    (fun i Y y c d q r => by
      refine ⟨?_, fun j hj => by rw [zs_hd c (by omega) hj]; exact r j hj, fun g' e => ⟨gU_ne e, fun c' k i' j' => zg_zs_g e (by omega) ⟨i', j'⟩⟩⟩
      rw [gU_same]
      obtain ⟨⟨q0, q1, q2, q3, q4⟩, hp, hM, hN, hJ, hH, hb⟩ := q
      refine ⟨⟨?_, ?_, ?_, ?_, ?_⟩, ?_, ?_, ?_, ?_, hH, ⟨XIb_xM0 hb.1, hb.2⟩⟩
      · rw [zg_zs_ne (by omega)]; exact q0
      · rw [zg_zs_ne (by omega)]; exact q1
      · rw [zg_zs_ne (by omega)]; exact q2
      · rw [zg_zs_ne (by omega)]; exact q3
      · rw [zg_zs_ne (by omega)]; exact q4
      · intro p u w
        rw [zg_zs_ne (by omega), zg_zs_ne (k' := 15 + 5 * p + 2) (by omega), zg_zs_ne (k' := 15 + 5 * p + 3) (by omega), zg_zs_ne (k' := 15 + 5 * p + 4) (by omega)]
        exact hp p u w
      · intro p u w
        rw [zg_zs_ne (by omega)]
        obtain ⟨m1, m2, m3⟩ := hM p u w
        exact ⟨m1, m2, fun x v t => by rw [zg_zs_ne (by omega)]; exact m3 x v t⟩
      · intro k u w
        rw [zg_zs_ne (by omega)]
        obtain ⟨m1, m2, m3⟩ := hN k u w
        exact ⟨m1, m2, fun x v t => by rw [zg_zs_ne (by omega)]; exact m3 x v t⟩
      · intro _
        rw [zg_zs]
        have : 0 ≤ z 6 := hm.2.2.2.2.1
        exact ⟨Or.inl rfl, ⟨fun _ => rfl, fun _ => rfl⟩, by omega, this, fun w => absurd rfl w⟩) (G := G) (z := mStart0 z) (fun j hj => rfl)
    (fun g c d => (hr g c d).mono (fun k i j => zg_mStart0 c i) (Int.le_refl _) (fun q => absurd q (by omega)) (Int.le_refl _)) 6 (Nat.le_refl 6)
  have hh := hl.1
  refine ⟨⟨?_, ?_, fun q => absurd q (by omega), ?_, ?_, ?_⟩, ⟨Or.inr rfl, b2, by omega, by omega⟩, (MIb_mStart hm).le (by omega), fun g c d => ?_⟩
  · refine (hh 0 (by omega)).trans ?_
    show z 0 + 1 = jb + 1
    rw [a0]
  · exact hh 1 (by omega)
  · exact (hh 3 (by omega)).trans a3
  · exact (hh 4 (by omega)).trans a4
  · exact (hh 5 (by omega)).trans a5
  · have e6 : mStart z 6 = z 6 := hh 6 (by omega)
    have e1 : mStart z 1 = 1 := hh 1 (by omega)
    rw [e6, e1]
    exact (hl.2.1 g c (by omega)).mono (fun k i j => rfl) (Int.le_refl _) (fun q => q) (by omega)
/-- the names of a job -/
theorem mNames1_all {y : Int → Int} : ∀ n : Nat, n ≤ 8 → (∀ j : Int, j < 7 → 0 ≤ g → itr (fun p y => zs y g (7 + p) (if p < zg y g 1 then zg y g (15 + 5 * p + 0) else 0)) y n j = y j) ∧ (∀ k : Int, (k < 7 ∨ 7 + n ≤ k) → zg (itr (fun p y => zs y g (7 + p) (if p < zg y g 1 then zg y g (15 + 5 * p + 0) else 0)) y n) g k = zg y g k) ∧ (∀ k : Int, 0 ≤ k → k < n → zg (itr (fun p y => zs y g (7 + p) (if p < zg y g 1 then zg y g (15 + 5 * p + 0) else 0)) y n) g (7 + k) = if k < zg y g 1 then zg y g (15 + 5 * k + 0) else 0) ∧ (∀ g' k : Int, g' ≠ g → 0 ≤ k → k < 60 → zg (itr (fun p y => zs y g (7 + p) (if p < zg y g 1 then zg y g (15 + 5 * p + 0) else 0)) y n) g' k = zg y g' k)
  | 0, _ => ⟨fun _ _ _ => rfl, fun _ _ => rfl, fun k a b => absurd b (by omega), fun _ _ _ _ _ => rfl⟩
  | n + 1, hn => by
    obtain ⟨i0, i1, i2, i3⟩ := mNames1_all (y := y) n (by omega)
    refine ⟨fun j hj h0 => ?_, fun k hk => ?_, fun k a b => ?_, fun g' k e a b => ?_⟩
    · exact (zs_hd h0 (by omega) hj).trans (i0 j hj h0)
    · exact (zg_zs_ne (by omega)).trans (i1 k (by omega))
    · by_cases e : k = n
      · rw [e]
        refine (zg_zs _ _ _ _).trans ?_
        rw [i1 1 (by omega), i1 (15 + 5 * n + 0) (by omega)]
      · exact (zg_zs_ne (by omega)).trans (i2 k a (by omega))
    · exact (zg_zs_g e (by omega) ⟨a, b⟩).trans (i3 g' k e a b)
theorem s_nm (h : RS B jb jr lf jf rd vr G z) (hj : jr = 0) : RS B jb jr lf jf rd vr (sNJ G) (mNames z) := by
  obtain ⟨⟨a0, a1, a2, a3, a4, a5⟩, hbb, hm, hr⟩ := h
  have hl := loop_sim (R := fun X y => RG B (z 6) 0 X y) (R' := fun X y => RG B (z 6) 0 X y) (f := fun g Y => gU Y g (xNJ (Y g))) (F := fun g y => mNames1 y g) (I := fun y => ∀ j : Int, j < 7 → y j = z j)
    (fun X y y' q r => RG.mono q r (Int.le_refl _) (fun q => q) (Int.le_refl _)) (fun X y y' q r => RG.mono q r (Int.le_refl _) (fun q => q) (Int.le_refl _))
    (fun i Y y c d q r => by
      obtain ⟨i0, i1, i2, i3⟩ := mNames1_all (g := i) (y := y) 8 (Nat.le_refl 8)
      have i1 : ∀ k : Int, (k < 7 ∨ 15 ≤ k) → zg (mNames1 y i) i k = zg y i k := fun k hk => i1 k (by omega)
      refine ⟨?_, fun j hj => (i0 j hj c).trans (r j hj), fun g' e => ⟨gU_ne e, fun c' k i' j' => i3 g' k e i' j'⟩⟩
      rw [gU_same]
      obtain ⟨⟨q0, q1, q2, q3, q4⟩, hp, hM, hN, hJ, hH, hb⟩ := q
      refine ⟨⟨?_, ?_, ?_, ?_, ?_⟩, ?_, ?_, ?_, ?_, hH, ⟨XIb_xNJ hb.1, hb.2.1, Int.le_refl _⟩⟩
      · rw [i1 _ (by omega)]; exact q0
      · rw [i1 _ (by omega)]; exact q1
      · rw [i1 _ (by omega)]; exact q2
      · rw [i1 _ (by omega)]; exact q3
      · rw [i1 _ (by omega)]; exact q4
      · intro p u w
        rw [i1 _ (by omega), i1 (15 + 5 * p + 2) (by omega), i1 (15 + 5 * p + 3) (by omega), i1 (15 + 5 * p + 4) (by omega)]
        exact hp p u w
      · intro p u w
        rw [i1 _ (by omega)]
        obtain ⟨m1, m2, m3⟩ := hM p u w
        exact ⟨m1, m2, fun x v t => by rw [i1 _ (by omega)]; exact m3 x v t⟩
      · intro k u w
        have e2 : zg (mNames1 y i) i (7 + k) = _ := i2 k u (by omega)
        rw [e2, q1]
        have h6 : 0 ≤ z 6 := hm.2.2.2.2.1
        by_cases f : k < Y i 0 2
        · rw [if_pos f]
          obtain ⟨m1, m2, m3⟩ := hM k u f
          refine ⟨by omega, m2, fun p v t => ?_⟩
          have t : p < Y i 0 2 := t
          rw [i1 _ (by omega)]
          show _ ↔ Y i 0 1 - p = Y i 0 1 - k
          obtain ⟨n1, n2, n3⟩ := hM p v t
          by_cases x : p = k
          · subst x
            exact ⟨fun _ => rfl, fun _ => rfl⟩
          · by_cases x2 : p < k
            · have := n3 k x2 f
              omega
            · have := m3 p (by omega) t
              omega
        · rw [if_neg f]
          refine ⟨by omega, h6, fun p v t => ?_⟩
          have t : p < Y i 0 2 := t
          rw [i1 _ (by omega)]
          show _ ↔ Y i 0 1 - p = Y i 0 1 - k
          have := (hM p v t).1
          omega
      · intro w
        exact absurd w (by omega)) (G := G) (z := z) (fun j hj => rfl)
    (fun g c d => (hr g c d).mono (fun k i j => rfl) (Int.le_refl _) (fun q => absurd q (by omega)) (Int.le_refl _)) 6 (Nat.le_refl 6)
  have hh := hl.1
  refine ⟨⟨(hh 0 (by omega)).trans a0, (hh 1 (by omega)).trans a1, fun q => (hh 2 (by omega)).trans (a2 q), (hh 3 (by omega)).trans a3, (hh 4 (by omega)).trans a4, (hh 5 (by omega)).trans a5⟩, hbb, MIb_mNames hm, fun g c d => ?_⟩
  have e6 : mNames z 6 = z 6 := hh 6 (by omega)
  have e1 : mNames z 1 = z 1 := hh 1 (by omega)
  rw [e6, e1, a1, hj]
  exact hl.2.1 g c (by omega)
theorem s_begin (h : RS B jb jr lf jf rd vr G z) (hj : jr = 0) : RS (B + 1) (jb + 1) 1 lf jf rd vr (sSt (sNJ G)) (mBegin z) := s_st0 (s_nm h hj)
/-- a job ends -/
theorem s_fail (h : RS B jb jr lf jf rd vr G z) (hj : jr = 1) (w : Int) : RS B jb jr lf jf rd vr (sFl (if w = 0 then 1 else 0) G) (mFail z w) := by
  by_cases hw : w = 0
  · rw [if_pos hw, mFail_w hw]
    have hMI := MIb_mFail (w := w) h.2.2.1
    rw [mFail_w hw] at hMI
    obtain ⟨⟨a0, a1, a2, a3, a4, a5⟩, hbb, hm, hr⟩ := h
    have hl := loop_sim (R := fun X y => RG B (z 6) 1 X y) (R' := fun X y => RG B (z 6) 1 X y) (f := fun g Y => if (1 : Int) = 1 ∧ thP (Y g 0 1) (Y g 0 2) (Y g 1) (Y g 0 6) then gU Y g (xHo (Y g) (Y g 0 6)) else Y) (F := fun g y => mFail1 y g) (I := fun y => ∀ j : Int, j < 7 → y j = z j)
      (fun X y y' q r => RG.mono q r (Int.le_refl _) (fun q => q) (Int.le_refl _)) (fun X y y' q r => RG.mono q r (Int.le_refl _) (fun q => q) (Int.le_refl _))
      (fun i Y y c d q r => by
        have e1 : y 1 = 1 := by rw [r 1 (by omega)]; omega
        have q' : RG B (z 6) (y 1) (Y i) (zg y i) := by rw [e1]; exact q
        have hmd := made_sim q' e1
        have hb := q.2.2.2.2.2.2.1.2.1
        show RG B (z 6) 1 ((if (1 : Int) = 1 ∧ thP (Y i 0 1) (Y i 0 2) (Y i 1) (Y i 0 6) then gU Y i (xHo (Y i) (Y i 0 6)) else Y) i) (zg (mFail1 y i) i) ∧ (∀ j : Int, j < 7 → mFail1 y i j = z j) ∧ ∀ g : Int, g ≠ i → (if (1 : Int) = 1 ∧ thP (Y i 0 1) (Y i 0 2) (Y i 1) (Y i 0 6) then gU Y i (xHo (Y i) (Y i 0 6)) else Y) g = Y g ∧ (0 ≤ g → ∀ k : Int, 0 ≤ k → k < 60 → zg (mFail1 y i) g k = zg y g k)
        by_cases t : thP (Y i 0 1) (Y i 0 2) (Y i 1) (Y i 0 6)
        · have t1 := t.1
          have t2 := t.2.1
          rw [if_pos t] at hmd
          have ef : mFail1 y i = mDel y i (Y i 0 1 - Y i 0 6) := by
            unfold mFail1
            rw [if_neg (by rw [hmd]; omega), hmd]
          rw [if_pos ⟨rfl, t⟩, ef, gU_same]
          refine ⟨hole_step q t, fun j hj => ?_, fun g' e => ⟨gU_ne e, fun c' k i' j' => mDel_g e (by omega) ⟨i', j'⟩⟩⟩
          rw [mDel_hd c (by omega) hj]
          exact r j hj
        · rw [if_neg t] at hmd
          have ef : mFail1 y i = y := by
            unfold mFail1
            rw [if_pos hmd]
          rw [if_neg (fun w => t w.2), ef]
          exact ⟨q, r, fun g' e => ⟨rfl, fun c' k i' j' => rfl⟩⟩) (G := G) (z := z) (fun j hj => rfl)
      (fun g c d => (hr g c d).mono (fun k i j => rfl) (Int.le_refl _) (fun _ => by omega) (Int.le_refl _)) 6 (Nat.le_refl 6)
    have hh := hl.1
    refine ⟨⟨(hh 0 (by omega)).trans a0, (hh 1 (by omega)).trans a1, fun q => (hh 2 (by omega)).trans (a2 q), (hh 3 (by omega)).trans a3, (hh 4 (by omega)).trans a4, (hh 5 (by omega)).trans a5⟩, hbb, hMI, fun g c d => ?_⟩
    rw [hh 6 (by omega), hh 1 (by omega), a1, hj]
    exact hl.2.1 g c (by omega)
  · rw [if_neg hw, mFail_n hw]
    have e : sFl 0 G = G := by
      exact itr_inv (fun Y => Y = G) (fun g Y => if (0 : Int) = 1 ∧ thP (Y g 0 1) (Y g 0 2) (Y g 1) (Y g 0 6) then gU Y g (xHo (Y g) (Y g 0 6)) else Y) G rfl (fun i x _ hx => by
        rw [if_neg (fun q => absurd q.1 (by omega))]
        exact hx) 6
    rw [e]
    exact h
theorem s_end0 {w : Int} (h : RS B jb jr lf jf rd vr G z) (hw : 0 ≤ w ∧ w ≤ 1) : RS B jb 0 (if w = 0 then 1 else 0) (if w = 0 then jf + 1 else jf) rd vr G (mEnd0 z w) := by
  obtain ⟨⟨a0, a1, a2, a3, a4, a5⟩, ⟨b1, b2, b3, b4⟩, hm, hr⟩ := h
  refine ⟨⟨a0, rfl, fun _ => ?_, ?_, a4, a5⟩, ⟨Or.inl rfl, by split <;> omega, b3, b4⟩, ?_, fun g c d => ?_⟩
  · show 1 - w = _
    split <;> omega
  · show z 3 + (1 - w) = _
    split <;> omega
  · obtain ⟨hz, hgi, h1, h2, h6, h7⟩ := hm
    refine ⟨CZ_hd (CZ_hd (CZ_hd hz (by omega)) (by omega)) (by omega), GI_hd (GI_hd (GI_hd hgi (by omega)) (by omega)) (by omega), Or.inl rfl, ?_, h6, h7⟩
    show 1 - w = 0 ∨ 1 - w = 1
    omega
  · exact (hr g c d).mono (fun k i j => zg_mEnd0 c i) (Int.le_refl _) (fun q => absurd (show (0 : Int) = 1 from q) (by omega)) (Int.le_refl _)
theorem s_end {w : Int} (h : RS B jb jr lf jf rd vr G z) (hj : jr = 1) (hw : 0 ≤ w ∧ w ≤ 1) : RS B jb 0 (if w = 0 then 1 else 0) (if w = 0 then jf + 1 else jf) rd vr (sFl (if w = 0 then 1 else 0) G) (mEnd z w) := s_end0 (s_fail h hj w) hw
end
