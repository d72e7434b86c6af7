theorem itr_sub (a b : Int → Int) : ∀ n : Nat, itr (fun g m => m + (a g - b g)) 0 n = itr (fun g m => m + a g) 0 n - itr (fun g m => m + b g) 0 n
  | 0 => rfl
  | n + 1 => by
    show itr (fun g m => m + (a g - b g)) 0 n + (a n - b n) = itr (fun g m => m + a g) 0 n + a n - (itr (fun g m => m + b g) 0 n + b n)
    rw [itr_sub a b n]
    omega
/-- the last of some that fit -/
theorem lv_some {mk v : Int → Int} {m p r0 : Int} (hp : mk p = m) (h0 : 0 ≤ p) : ∀ n : Nat, p < n → (∀ q : Int, 0 ≤ q → q < n → mk q = m → q = p) → itr (fun k r => if mk k = m then v k else r) r0 n = v p
  | 0, h, _ => absurd h (by omega)
  | n + 1, h, hq => by
    show (if mk n = m then v n else itr (fun k r => if mk k = m then v k else r) r0 n) = v p
    by_cases e : mk n = m
    · rw [if_pos e, hq n (by omega) (by omega) e]
    · rw [if_neg e]
      refine lv_some hp h0 n ?_ (fun q a b => hq q a (by omega))
      by_cases e2 : p = n
      · rw [e2] at hp; exact absurd hp e
      · omega
theorem lv_none {mk v : Int → Int} {m r0 : Int} : ∀ n : Nat, (∀ q : Int, 0 ≤ q → q < n → ¬ mk q = m) → itr (fun k r => if mk k = m then v k else r) r0 n = r0
  | 0, _ => rfl
  | n + 1, hq => by
    show (if mk n = m then v n else itr (fun k r => if mk k = m then v k else r) r0 n) = r0
    rw [if_neg (hq n (by omega) (by omega))]
    exact lv_none n (fun q a b => hq q a (by omega))
section
variable {B C jb jr lf jf rd vr g : Int} {G G' : Int → zGr} {z z' : Int → Int}
theorem q_holes (h : RS B jb jr lf jf rd vr G z) : sCH G = mAllHoles z := itr_congr 6 (fun i x a b => by rw [holes_sim (h.rg (g := i) ⟨a, by omega⟩)])
theorem q_wholes (h : RS B jb jr lf jf rd vr G z) : sCT G = mWholes z := by
  unfold mWholes mAll
  rw [← q_holes h]
  unfold sCT sCH
  rw [itr_sub]
  rw [itr_congr (f := fun g m => m + G g 0 2) (f' := fun g m => m + zg z g 1) 6 (fun i x a b => by rw [(h.rg (g := i) ⟨a, by omega⟩).1.2.1])]
theorem q_made (h : RS B jb jr lf jf rd vr G z) : sMd jr G = mMany7 z := by
  refine itr_congr 6 (fun i x a b => ?_)
  have hr := h.rg (g := i) ⟨a, by omega⟩
  have hb := hr.2.2.2.2.2.2.1.2.1
  have e1 := h.1.2.1
  by_cases c : jr = 0
  · have : mMade z i = -6 := by
      unfold mMade
      rw [made_b (by omega), noHole_a rfl]
    rw [if_neg (fun q => q.1 c), this, if_pos rfl]
    omega
  · have hj := h.2.1.1
    have hm := made_sim hr (by omega)
    rw [hm]
    by_cases t : thP (G i 0 1) (G i 0 2) (G i 1) (G i 0 6)
    · have t1 := t.1
      have t2 := t.2.1
      rw [if_pos ⟨c, t⟩, if_pos t, if_neg (by omega)]
    · rw [if_neg (fun q => t q.2), if_neg t, if_pos rfl]
      omega
theorem q_about {k : Int} (h : RS B jb jr lf jf rd vr G z) : (if ¬ (0 ≤ g ∧ g ≤ 5) then -1 else if k = 0 ∨ k = 1 then zg z g k else if k = 2 then mHoles z g else if 3 ≤ k ∧ k ≤ 5 then zg z g (k - 1) else if k = 6 then mSum z g else -2) = (if ¬ (0 ≤ g ∧ g ≤ 5) then -1 else if k = 0 then G g 0 0 else if k = 1 then G g 0 2 else if k = 2 then cHo (G g 0 1) (G g 0 2) (G g 1) else if k = 3 then nO (G g 0 1) else if k = 4 then G g 0 3 else if k = 5 then G g 0 4 else if k = 6 then cSu (G g 0 1) (G g 0 2) (G g 1) else -2) := by
  by_cases c : ¬ (0 ≤ g ∧ g ≤ 5)
  · rw [if_pos c, if_pos c]
  rw [if_neg c, if_neg c]
  have hr := h.rg (g := g) (by omega)
  obtain ⟨a0, a1, a2, a3, a4⟩ := hr.1
  by_cases k0 : k = 0
  · subst k0
    rw [if_pos (Or.inl rfl), if_pos rfl, a0]
  by_cases k1 : k = 1
  · subst k1
    rw [if_pos (Or.inr rfl), if_neg k0, if_pos rfl, a1]
  rw [if_neg (fun q => q.elim k0 k1), if_neg k0, if_neg k1]
  by_cases k2 : k = 2
  · rw [if_pos k2, if_pos k2, holes_sim hr]
  rw [if_neg k2, if_neg k2]
  by_cases k3 : k = 3
  · subst k3
    rw [if_pos (by omega), if_pos rfl]
    exact a2
  by_cases k4 : k = 4
  · subst k4
    rw [if_pos (by omega), if_neg k3, if_pos rfl]
    exact a3
  by_cases k5 : k = 5
  · subst k5
    rw [if_pos (by omega), if_neg k3, if_neg k4, if_pos rfl]
    exact a4
  rw [if_neg (by omega), if_neg k3, if_neg k4, if_neg k5]
  by_cases k6 : k = 6
  · rw [if_pos k6, if_pos k6, sum_sim hr]
  · rw [if_neg k6, if_neg k6]
theorem q_name {pl : Int} (h : RS B jb jr lf jf rd vr G z) (hg : 0 ≤ g ∧ g ≤ 5) (hp : 0 ≤ pl ∧ pl < G g 0 2) : mNameOf z g pl = if ¬ jr = 0 ∧ ¬ G g 1 ((G g 0 1 - pl) % 8) = -6 then nFJ (G g 0 5) (G g 0 6) (G g 0 1 - pl) else -6 := by
  have hr := h.rg hg
  have hj := h.2.1.1
  have e1 := h.1.2.1
  have hb := hr.2.2.2.2.2.2.1.2.1
  have hbn := hr.2.2.2.2.2.2.2.2
  unfold mNameOf
  by_cases c : jr = 0
  · rw [if_neg (by omega), if_neg (fun q => q.1 c)]
  rw [if_pos (by omega)]
  have ht : ∀ n : Int, -7 ≤ n ∧ n ≤ 1 → (mTold z g n = pl ↔ ((sOf (G g 0 1) (G g 0 5) (G g 0 6) n jr) = G g 0 1 - pl ∧ ¬ G g 1 ((G g 0 1 - pl) % 8) = -6)) := by
    intro n hn
    rw [s_told h hg hn]
    by_cases t : thP (G g 0 1) (G g 0 2) (G g 1) (sOf (G g 0 1) (G g 0 5) (G g 0 6) n jr)
    · rw [if_pos t]
      refine ⟨fun q => ?_, fun q => by omega⟩
      have : sOf (G g 0 1) (G g 0 5) (G g 0 6) n jr = G g 0 1 - pl := by omega
      exact ⟨this, by rw [← this]; exact t.2.2⟩
    · rw [if_neg t]
      refine ⟨fun q => absurd q (by omega), fun q => absurd ⟨by rw [q.1]; omega, by rw [q.1]; omega, by rw [q.1]; exact q.2⟩ t⟩
  have hs : ∀ n : Int, sOf (G g 0 1) (G g 0 5) (G g 0 6) n jr = if n = 1 then G g 0 6 else G g 0 5 + n := by
    intro n
    unfold sOf
    rw [if_neg c, if_neg c]
  by_cases d : G g 1 ((G g 0 1 - pl) % 8) = -6
  · rw [if_neg (fun q => q.2 d)]
    exact lv_none (mk := fun k => mTold z g (k - 7)) (v := fun k => (k - 7) + 10) 9 (fun q a b e => ((ht (q - 7) (by omega)).1 e).2 d)
  · rw [if_pos ⟨c, d⟩]
    unfold nFJ
    show (if mTold z g (((8 : Nat) : Int) - 7) = pl then ((8 : Nat) : Int) - 7 + 10 else itr (fun k r => if mTold z g (k - 7) = pl then (k - 7) + 10 else r) (-6) 8) = _
    rw [show ((8 : Nat) : Int) - 7 = 1 from rfl]
    have h1 := ht 1 (by omega)
    rw [hs 1, if_pos rfl] at h1
    by_cases f : G g 0 1 - pl = G g 0 6
    · rw [if_pos (h1.2 ⟨f.symm, d⟩), if_pos f]
      rfl
    · rw [if_neg (fun q => f (h1.1 q).1.symm), if_neg f]
      have hk : ∀ k : Int, 0 ≤ k → k < 8 → (mTold z g (k - 7) = pl ↔ G g 0 5 + (k - 7) = G g 0 1 - pl) := by
        intro k a b
        rw [ht (k - 7) (by omega), hs (k - 7), if_neg (by omega)]
        exact ⟨fun q => q.1, fun q => ⟨q, d⟩⟩
      by_cases i : -7 ≤ G g 0 1 - pl - G g 0 5 ∧ G g 0 1 - pl - G g 0 5 ≤ 0
      · rw [if_pos i]
        have := lv_some (mk := fun k => mTold z g (k - 7)) (v := fun k => (k - 7) + 10) (m := pl) (r0 := -6) (p := G g 0 1 - pl - G g 0 5 + 7) ((hk _ (by omega) (by omega)).2 (by omega)) (by omega) 8 (by omega) (fun q a b e => by have := (hk q a (by omega)).1 e; omega)
        rw [this]
        omega
      · rw [if_neg i]
        exact lv_none (mk := fun k => mTold z g (k - 7)) (v := fun k => (k - 7) + 10) 8 (fun q a b e => by have := (hk q a (by omega)).1 e; omega)
theorem q_gen {pl k : Int} (h : RS B jb jr lf jf rd vr G z) : (if ¬ (0 ≤ g ∧ g ≤ 5 ∧ 0 ≤ pl ∧ pl ≤ zg z g 1 - 1) then -1 else if k = 0 then zg z g (15 + 5 * pl + 1) else if k = 1 then zg z g (15 + 5 * pl + 2) else if k = 2 then (if zg z g (15 + 5 * pl + 2) = -6 then 1 else 0) else if k = 3 then zg z g (15 + 5 * pl + 3) else if k = 4 then zg z g (15 + 5 * pl + 4) else if k = 5 then mNameOf z g pl else -2) = (if ¬ (0 ≤ g ∧ g ≤ 5 ∧ 0 ≤ pl ∧ pl < G g 0 2) then -1 else if k = 0 then nO (G g 0 1 - pl) else if k = 1 then G g 1 ((G g 0 1 - pl) % 8) else if k = 2 then (if G g 1 ((G g 0 1 - pl) % 8) = -6 then 1 else 0) else if k = 3 then G g 2 ((G g 0 1 - pl) % 8) else if k = 4 then G g 3 ((G g 0 1 - pl) % 8) else if k = 5 then (if ¬ jr = 0 ∧ ¬ G g 1 ((G g 0 1 - pl) % 8) = -6 then nFJ (G g 0 5) (G g 0 6) (G g 0 1 - pl) else -6) else -2) := by
  by_cases c : 0 ≤ g ∧ g ≤ 5 ∧ 0 ≤ pl ∧ pl < G g 0 2
  · have hr := h.rg (g := g) ⟨c.1, c.2.1⟩
    have e := hr.1.2.1
    obtain ⟨p1, p2, p3, p4⟩ := hr.2.1 pl c.2.2.1 c.2.2.2
    have hn := q_name h (g := g) (pl := pl) ⟨c.1, c.2.1⟩ c.2.2
    have c1 : ¬ ¬ (0 ≤ g ∧ g ≤ 5 ∧ 0 ≤ pl ∧ pl ≤ zg z g 1 - 1) := fun q => q ⟨c.1, c.2.1, c.2.2.1, by omega⟩
    have c2 : ¬ ¬ (0 ≤ g ∧ g ≤ 5 ∧ 0 ≤ pl ∧ pl < G g 0 2) := fun q => q c
    rw [if_neg c1, if_neg c2, p1, p2, p3, p4, hn]
  · have c1 : ¬ (0 ≤ g ∧ g ≤ 5 ∧ 0 ≤ pl ∧ pl ≤ zg z g 1 - 1) := fun q => c ⟨q.1, q.2.1, q.2.2.1, by have := (h.rg (g := g) ⟨q.1, q.2.1⟩).1.2.1; omega⟩
    rw [if_pos c1, if_pos c]
theorem q_num {n : Int} (h : RS B jb jr lf jf rd vr G z) (hg : 0 ≤ g ∧ g ≤ 5) (hn : -7 ≤ n ∧ n ≤ 1) : (if mTold z g n = -6 then -6 else zg z g (15 + 5 * (mTold z g n) + 1)) = nIT (G g 0 1) (G g 0 2) (G g 1) (sOf (G g 0 1) (G g 0 5) (G g 0 6) n jr) := by
  have hr := h.rg hg
  have hb := hr.2.2.2.2.2.2.1.2.1
  unfold nIT
  rw [s_told h hg hn]
  by_cases t : thP (G g 0 1) (G g 0 2) (G g 1) (sOf (G g 0 1) (G g 0 5) (G g 0 6) n jr)
  · have t1 := t.1
    have t2 := t.2.1
    rw [if_pos t, if_pos t, if_neg (by omega), (hr.2.1 _ (by omega) (by omega)).1]
    rw [show G g 0 1 - (G g 0 1 - sOf (G g 0 1) (G g 0 5) (G g 0 6) n jr) = sOf (G g 0 1) (G g 0 5) (G g 0 6) n jr by omega]
  · rw [if_neg t, if_neg t, if_pos rfl]
theorem q_named {n : Int} (h : RS B jb jr lf jf rd vr G z) : (if ¬ (0 ≤ g ∧ g ≤ 5) then -1 else if ¬ (-7 ≤ n ∧ n ≤ 1) then -2 else if mTold z g n = -6 then -6 else zg z g (15 + 5 * (mTold z g n) + 1)) = (if ¬ (0 ≤ g ∧ g ≤ 5) then -1 else if ¬ (-7 ≤ n ∧ n ≤ 1) then -2 else nIT (G g 0 1) (G g 0 2) (G g 1) (sOf (G g 0 1) (G g 0 5) (G g 0 6) n jr)) := by
  by_cases c : ¬ (0 ≤ g ∧ g ≤ 5)
  · rw [if_pos c, if_pos c]
  rw [if_neg c, if_neg c]
  by_cases d : ¬ (-7 ≤ n ∧ n ≤ 1)
  · rw [if_pos d, if_pos d]
  rw [if_neg d, if_neg d]
  exact q_num h (by omega) (by omega)
theorem q_count {k le un : Int} (h : RS B jb jr lf jf rd vr G z) : (if k = 0 then z 0 else if k = 1 then z 1 else if k = 2 then z 3 else if k = 3 then mWholes z else if k = 4 then mAllHoles z else if k = 5 then z 4 else if k = 6 then z 5 else if k = 7 then mMany7 z else if k = 8 then le else if k = 9 then un else -2) = (if k = 8 then le else if k = 9 then un else if k = 0 then jb else if k = 1 then (if jr = 0 then 0 else 1) else if k = 2 then jf else if k = 3 then sCT G else if k = 4 then sCH G else if k = 5 then rd else if k = 6 then vr else if k = 7 then sMd jr G else -2) := by
  rw [q_wholes h, q_holes h, q_made h, h.1.1, h.1.2.1, h.1.2.2.2.1, h.1.2.2.2.2.1, h.1.2.2.2.2.2]
  have e : (if jr = 0 then 0 else 1) = jr := by
    have := h.2.1.1
    split <;> omega
  rw [e]
  by_cases k8 : k = 8
  · subst k8
    rfl
  by_cases k9 : k = 9
  · subst k9
    rfl
  rw [if_neg k8, if_neg k9, if_neg k8, if_neg k9]
theorem q_rolls (h : RS B jb jr lf jf rd vr G z) : (if ¬ (0 ≤ g ∧ g ≤ 5) then -1 else if zg z g 1 < zg z g 0 then -6 else zg z g (15 + 5 * (zg z g 1 - 1) + 1)) = (if ¬ (0 ≤ g ∧ g ≤ 5) then -1 else if G g 0 0 ≤ G g 0 2 then nIT (G g 0 1) (G g 0 2) (G g 1) (G g 0 1 - G g 0 2 + 1) else -6) := by
  by_cases c : ¬ (0 ≤ g ∧ g ≤ 5)
  · rw [if_pos c, if_pos c]
  rw [if_neg c, if_neg c]
  have hr := h.rg (g := g) (by omega)
  have hb := hr.2.2.2.2.2.2.1
  have hH := hr.2.2.2.2.2.1
  have hb1 := hb.2.1
  have hbk := hb.2.2.2.1
  rw [hr.1.1, hr.1.2.1]
  by_cases d : G g 0 0 ≤ G g 0 2
  · rw [if_neg (by omega), if_pos d, (hr.2.1 _ (by omega) (by omega)).1]
    unfold nIT
    rw [if_pos ⟨by omega, by omega, hH (by omega)⟩, show G g 0 1 - (G g 0 2 - 1) = G g 0 1 - G g 0 2 + 1 by omega]
  · rw [if_pos (by omega), if_neg d]
theorem q_least (h : RS B jb jr lf jf rd vr G z) : (if ¬ (0 ≤ g ∧ g ≤ 5) then -1 else if zg z g 1 < 1 then 1 else zg z g 1) = (if ¬ (0 ≤ g ∧ g ≤ 5) then -1 else if 1 < G g 0 2 then G g 0 2 else 1) := by
  by_cases c : ¬ (0 ≤ g ∧ g ≤ 5)
  · rw [if_pos c, if_pos c]
  rw [if_neg c, if_neg c, (h.rg (g := g) (by omega)).1.2.1]
  split <;> split <;> omega
theorem q_groups {k : Int} (h : RS B jb jr lf jf rd vr G z) : (if ¬ (0 ≤ k ∧ k ≤ 2) then -2 else mSet z k) = (if ¬ (0 ≤ k ∧ k ≤ 2) then -2 else sSet jr G k) := by
  by_cases c : ¬ (0 ≤ k ∧ k ≤ 2)
  · rw [if_pos c, if_pos c]
  rw [if_neg c, if_neg c]
  refine itr_congr 6 (fun i x a b => ?_)
  have hr := h.rg (g := i) ⟨a, by omega⟩
  have e1 := h.1.2.1
  have hj := h.2.1.1
  have hb := hr.2.2.2.2.2.2.1.2.1
  have ht := s_told h (g := i) (n := 0) ⟨a, by omega⟩ (by omega)
  have hi : ((k = 0 ∧ 0 < mHoles z i) ∨ (k = 1 ∧ (z 1 = 1 ∧ ¬ zg z i 5 = 0 ∧ mPlace z i (zg z i 5) = 0)) ∨ (k = 2 ∧ mTold z i 0 = -6)) ↔ soP jr k (G i 0 1) (G i 0 2) (G i 0 5) (G i 0 6) (G i 1) := by
    rw [← holes_sim hr]
    by_cases k0 : k = 0
    · exact ⟨fun q => Or.inl ⟨k0, by omega⟩, fun q => Or.inl ⟨k0, by omega⟩⟩
    by_cases k1 : k = 1
    · have key : (z 1 = 1 ∧ ¬ zg z i 5 = 0 ∧ mPlace z i (zg z i 5) = 0) ↔ ((¬ jr = 0 ∧ ¬ G i 0 6 = 0) ∧ 0 < G i 0 2) := by
        by_cases c1 : jr = 1
        · have hz : z 1 = 1 := by omega
          obtain ⟨j1, j2, j3, j4, j5⟩ := hr.2.2.2.2.1 hz
          rw [place_sim hr (made_iff hr hz)]
          by_cases m0 : G i 0 6 = 0
          · omega
          · by_cases s0 : 0 < G i 0 2
            · rw [if_pos (by omega)]
              omega
            · rw [if_neg (by omega)]
              omega
        · omega
      constructor
      · intro q
        exact Or.inr (Or.inl ⟨k1, key.1 (q.elim (fun w => absurd w.1 k0) (fun w => w.elim (fun v => v.2) (fun v => absurd v.1 (by omega))))⟩)
      · intro q
        exact Or.inr (Or.inl ⟨k1, key.2 (q.elim (fun w => absurd w.1 k0) (fun w => w.elim (fun v => v.2) (fun v => absurd k1 v.2.1)))⟩)
    · have key : mTold z i 0 = -6 ↔ ¬ thP (G i 0 1) (G i 0 2) (G i 1) (sOf (G i 0 1) (G i 0 5) (G i 0 6) 0 jr) := by
        rw [ht]
        by_cases t : thP (G i 0 1) (G i 0 2) (G i 1) (sOf (G i 0 1) (G i 0 5) (G i 0 6) 0 jr)
        · have t1 := t.1
          have t2 := t.2.1
          rw [if_pos t]
          exact ⟨fun q => absurd q (by omega), fun q => absurd t q⟩
        · rw [if_neg t]
          exact ⟨fun _ => t, fun _ => rfl⟩
      constructor
      · intro q
        exact Or.inr (Or.inr ⟨k0, k1, key.1 (q.elim (fun w => absurd w.1 k0) (fun w => w.elim (fun v => absurd v.1 k1) (fun v => v.2)))⟩)
      · intro q
        exact Or.inr (Or.inr ⟨by omega, key.2 (q.elim (fun w => absurd w.1 k0) (fun w => w.elim (fun v => absurd v.1 k1) (fun v => v.2.2)))⟩)
  by_cases c2 : soP jr k (G i 0 1) (G i 0 2) (G i 0 5) (G i 0 6) (G i 1)
  · rw [if_pos (hi.2 c2), if_pos c2]
  · rw [if_neg (fun q => c2 (hi.1 q)), if_neg c2]
end
