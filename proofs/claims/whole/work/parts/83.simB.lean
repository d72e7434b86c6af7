-- loops over the six groups, on both sides
theorem loop_sim {R R' : zGr → (Int → Int) → Prop} {f : Int → (Int → zGr) → (Int → zGr)} {F : Int → (Int → Int) → (Int → Int)} {I : (Int → Int) → Prop} (cR : ∀ (X : zGr) (y y' : Int → Int), R X y → (∀ k : Int, 0 ≤ k → k < 60 → y' k = y k) → R X y') (cR' : ∀ (X : zGr) (y y' : Int → Int), R' X y → (∀ k : Int, 0 ≤ k → k < 60 → y' k = y k) → R' X y') (st : ∀ (i : Int) (Y : Int → zGr) (y : Int → Int), 0 ≤ i → i ≤ 5 → R (Y i) (zg y i) → I y → R' (f i Y i) (zg (F i y) i) ∧ I (F i y) ∧ ∀ g : Int, g ≠ i → f i Y g = Y g ∧ (0 ≤ g → ∀ k : Int, 0 ≤ k → k < 60 → zg (F i y) g k = zg y g k)) {G : Int → zGr} {z : Int → Int} (hI : I z) (h : ∀ g : Int, 0 ≤ g → g ≤ 5 → R (G g) (zg z g)) : ∀ n : Nat, n ≤ 6 → I (itr F z n) ∧ (∀ g : Int, 0 ≤ g → g < n → R' (itr f G n g) (zg (itr F z n) g)) ∧ (∀ g : Int, n ≤ g → g ≤ 5 → R (itr f G n g) (zg (itr F z n) g))
  | 0, _ => ⟨hI, fun g a b => absurd b (by omega), fun g a b => h g (by omega) b⟩
  | n + 1, hn => by
    obtain ⟨i1, i2, i3⟩ := loop_sim cR cR' st hI h n (by omega)
    obtain ⟨s1, s2, s3⟩ := st n (itr f G n) (itr F z n) (by omega) (by omega) (i3 n (by omega) (by omega)) i1
    refine ⟨s2, fun g a b => ?_, fun g a b => ?_⟩
    · show R' (f n (itr f G n) g) (zg (F n (itr F z n)) g)
      by_cases e : g = n
      · rw [e]; exact s1
      · rw [(s3 g e).1]
        exact cR' _ _ _ (i2 g a (by omega)) ((s3 g e).2 a)
    · show R (f n (itr f G n) g) (zg (F n (itr F z n)) g)
      rw [(s3 g (by omega)).1]
      exact cR _ _ _ (i3 g (by omega) b) ((s3 g (by omega)).2 (by omega))
theorem itr_congr {A : Type} {f f' : Int → A → A} {a : A} : ∀ n : Nat, (∀ (i : Int) (x : A), 0 ≤ i → i < n → f i x = f' i x) → itr f a n = itr f' a n
  | 0, _ => rfl
  | n + 1, h => by
    show f n (itr f a n) = f' n (itr f' a n)
    rw [itr_congr n (fun i x c d => h i x c (by omega)), h n _ (by omega) (by omega)]
theorem sum_front (a : Int → Int) : ∀ n : Nat, itr (fun p m => m + a p) 0 (n + 1) = a 0 + itr (fun p m => m + a (p + 1)) 0 n
  | 0 => by show 0 + a (0 : Nat) = a 0 + 0; rw [show ((0 : Nat) : Int) = 0 from rfl]; omega
  | n + 1 => by
    show itr (fun p m => m + a p) 0 (n + 1) + a ((n + 1 : Nat) : Int) = a 0 + (itr (fun p m => m + a (p + 1)) 0 n + a ((n : Int) + 1))
    rw [sum_front a n, show ((n + 1 : Nat) : Int) = (n : Int) + 1 by omega]
    omega
theorem sum_rev : ∀ (n : Nat) (a : Int → Int), itr (fun p m => m + a p) 0 n = itr (fun p m => m + a (n - 1 - p)) 0 n
  | 0, a => rfl
  | n + 1, a => by
    rw [sum_front (fun p => a (((n + 1 : Nat) : Int) - 1 - p)) n]
    show itr (fun p m => m + a p) 0 n + a n = _
    rw [sum_rev n a, show ((n + 1 : Nat) : Int) - 1 - 0 = n by omega, itr_congr (f := fun p m => m + a (((n + 1 : Nat) : Int) - 1 - (p + 1))) (f' := fun p m => m + a ((n : Int) - 1 - p)) n (fun i x c d => by rw [show ((n + 1 : Nat) : Int) - 1 - (i + 1) = (n : Int) - 1 - i by omega])]
    omega
section
variable {B m6 jr : Int} {X : zGr} {z : Int → Int} {g : Int}
theorem holes_sim (h : RG B m6 jr X (zg z g)) : cHo (X 0 1) (X 0 2) (X 1) = mHoles z g := by
  have e1 : zg z g 1 = X 0 2 := h.1.2.1
  have hsi := h.2.2.2.2.2.2.1.2.1
  unfold cHo mHoles
  rw [e1]
  refine itr_congr _ (fun i x a b => ?_)
  have hp := (h.2.1 i a (by omega)).2.1
  rw [hp]
theorem sum_sim (h : RG B m6 jr X (zg z g)) : cSu (X 0 1) (X 0 2) (X 1) = mSum z g := by
  have e1 : zg z g 1 = X 0 2 := h.1.2.1
  have hsi := h.2.2.2.2.2.2.1.2.1
  unfold cSu mSum
  rw [e1]
  refine itr_congr _ (fun i x a b => ?_)
  have hp := (h.2.1 i a (by omega)).2.1
  rw [hp]
  split
  · omega
  · rfl
end
def RS (B jb jr lf jf rd vr : Int) (G : Int → zGr) (z : Int → Int) : Prop := (z 0 = jb ∧ z 1 = jr ∧ (jr = 0 → z 2 = lf) ∧ z 3 = jf ∧ z 4 = rd ∧ z 5 = vr) ∧ ((jr = 0 ∨ jr = 1) ∧ (lf = 0 ∨ lf = 1) ∧ 0 ≤ jb ∧ jb ≤ B) ∧ MIb B z ∧ ∀ g : Int, 0 ≤ g → g ≤ 5 → RG B (z 6) (z 1) (G g) (zg z g)
section
variable {B C jb jr lf jf rd vr g : Int} {G : Int → zGr} {z z' : Int → Int}
theorem RS.rg (h : RS B jb jr lf jf rd vr G z) (hg : 0 ≤ g ∧ g ≤ 5) : RG B (z 6) (z 1) (G g) (zg z g) := h.2.2.2 g hg.1 hg.2
theorem RS.sib (h : RS B jb jr lf jf rd vr G z) : SIb B G := fun g a b => (h.2.2.2 g a b).2.2.2.2.2.2.1
theorem RS_grp {X : zGr} {rd' vr' : Int} (h : RS B jb jr lf jf rd vr G z) (hg : 0 ≤ g ∧ g ≤ 5) (hB : B ≤ C) (hz : ∀ j : Int, j < 4 → z' j = z j) (h4 : z' 4 = rd') (h5 : z' 5 = vr') (h6 : z 6 ≤ z' 6) (hMI : MIb C z') (ho : ∀ g' k : Int, g' ≠ g → 0 ≤ g' → 0 ≤ k → k < 60 → zg z' g' k = zg z g' k) (hG : RG C (z' 6) (z 1) X (zg z' g)) : RS C jb jr lf jf rd' vr' (gU G g X) z' := by
  obtain ⟨⟨a0, a1, a2, a3, a4, a5⟩, ⟨b1, b2, b3, b4⟩, hm, hr⟩ := h
  refine ⟨⟨by rw [hz 0 (by omega), a0], by rw [hz 1 (by omega), a1], fun e => by rw [hz 2 (by omega), a2 e], by rw [hz 3 (by omega), a3], h4, h5⟩, ⟨b1, b2, b3, by omega⟩, hMI, fun g' c d => ?_⟩
  rw [hz 1 (by omega)]
  by_cases e : g' = g
  · rw [e, gU_same]; exact hG
  · rw [gU_ne e]
    exact (hr g' c d).mono (fun k i j => ho g' k e c i j) h6 (fun q => q) hB
theorem s_keep {k : Int} (h : RS B jb jr lf jf rd vr G z) (hg : 0 ≤ g ∧ g ≤ 5) (hk : 1 ≤ k ∧ k ≤ 8) : RS B jb jr lf jf rd vr (gU G g (xK (G g) k)) (mRoll (zs z g 0 k) g) := by
  have hh : ∀ j : Int, j < 7 → mRoll (zs z g 0 k) g j = z j := fun j hj => by unfold mRoll; rw [mRollN_hd hg.1 hj, zs_hd hg.1 (by omega) hj]
  refine RS_grp h hg (Int.le_refl _) (fun j hj => hh j (by omega)) ((hh 4 (by omega)).trans h.1.2.2.2.2.1) ((hh 5 (by omega)).trans h.1.2.2.2.2.2) (by rw [hh 6 (by omega)]; omega) (MIb_keep h.2.2.1 hg hk) (fun g' k' e c i j => ?_) ?_
  · unfold mRoll
    rw [mRollN_g e ⟨i, j⟩, zg_zs_g e (by omega) ⟨i, j⟩]
  · rw [hh 6 (by omega)]
    exact keep_sim (h.rg hg) hk
theorem s_del {sr : Int} (h : RS B jb jr lf jf rd vr G z) (hg : 0 ≤ g ∧ g ≤ 5) (ht : thP (G g 0 1) (G g 0 2) (G g 1) sr) : RS B jb jr lf jf rd vr (gU G g (xHo (G g) sr)) (mDel z g (G g 0 1 - sr)) := by
  have hb := (h.rg hg).2.2.2.2.2.2.1.2.1
  have ht1 := ht.1
  have ht2 := ht.2.1
  have hh : ∀ j : Int, j < 7 → mDel z g (G g 0 1 - sr) j = z j := fun j hj => mDel_hd hg.1 (by omega) hj
  refine RS_grp h hg (Int.le_refl _) (fun j hj => hh j (by omega)) ((hh 4 (by omega)).trans h.1.2.2.2.2.1) ((hh 5 (by omega)).trans h.1.2.2.2.2.2) (by rw [hh 6 (by omega)]; omega) (MIb_mDel h.2.2.1 hg (by omega)) (fun g' k' e c i j => mDel_g e (by omega) ⟨i, j⟩) ?_
  rw [hh 6 (by omega)]
  exact hole_step (h.rg hg) ht
theorem s_told {n : Int} (h : RS B jb jr lf jf rd vr G z) (hg : 0 ≤ g ∧ g ≤ 5) (hn : -7 ≤ n ∧ n ≤ 1) : mTold z g n = if thP (G g 0 1) (G g 0 2) (G g 1) (sOf (G g 0 1) (G g 0 5) (G g 0 6) n jr) then G g 0 1 - sOf (G g 0 1) (G g 0 5) (G g 0 6) n jr else -6 := told_sim (h.rg hg) h.1.2.1.symm h.2.1.1 hn
theorem s_data {sr d : Int} (h : RS B jb jr lf jf rd vr G z) (hg : 0 ≤ g ∧ g ≤ 5) (hd : 0 ≤ d ∧ d ≤ 9999) (ht : thP (G g 0 1) (G g 0 2) (G g 1) sr) : RS B jb jr lf jf rd vr (gU G g (xDa (G g) sr d)) (zs z g (15 + 5 * (G g 0 1 - sr) + 2) d) := by
  have hb := (h.rg hg).2.2.2.2.2.2.1.2.1
  have ht1 := ht.1
  have ht2 := ht.2.1
  have hh : ∀ j : Int, j < 7 → zs z g (15 + 5 * (G g 0 1 - sr) + 2) d j = z j := fun j hj => zs_hd hg.1 (by omega) hj
  refine RS_grp h hg (Int.le_refl _) (fun j hj => hh j (by omega)) ((hh 4 (by omega)).trans h.1.2.2.2.2.1) ((hh 5 (by omega)).trans h.1.2.2.2.2.2) (by rw [hh 6 (by omega)]; omega) (MIb_zs h.2.2.1 hg (by omega) (by omega) (fun _ => ⟨by omega, by omega⟩)) (fun g' k' e c i j => zg_zs_g e (by omega) ⟨i, j⟩) ?_
  rw [hh 6 (by omega)]
  exact data_sim (h.rg hg) ht hd
theorem s_write {n d : Int} (h : RS B jb jr lf jf rd vr G z) (hg : 0 ≤ g ∧ g ≤ 5) (hn : -7 ≤ n ∧ n ≤ 1) (hd : 0 ≤ d ∧ d ≤ 9999) (hB : B < 1999999999) (hw : (n = 1 ∧ (¬ z 1 = 1 ∨ zg z g 5 = 0)) ∨ ¬ mTold z g n = -6) : RS (B + 1) jb jr lf jf rd vr (if (n = 1 ∧ ¬ (¬ jr = 0 ∧ ¬ G g 0 6 = 0)) then gU G g (xMk (G g) d (if jr = 0 then 0 else jb)) else if thP (G g 0 1) (G g 0 2) (G g 1) (sOf (G g 0 1) (G g 0 5) (G g 0 6) n jr) then gU G g (xDa (G g) (sOf (G g 0 1) (G g 0 5) (G g 0 6) n jr) d) else G) (mWrite z g n d) ∧ mWriteR z g n d = (if (n = 1 ∧ ¬ (¬ jr = 0 ∧ ¬ G g 0 6 = 0)) then nO (G g 0 1 + 1) else if thP (G g 0 1) (G g 0 2) (G g 1) (sOf (G g 0 1) (G g 0 5) (G g 0 6) n jr) then nO (sOf (G g 0 1) (G g 0 5) (G g 0 6) n jr) else -5) := by
  have hMI := MIb_mWrite h.2.2.1 hB hg hd hw
  have hR := h.rg hg
  have e1 := h.1.2.1
  have hj := h.2.1.1
  have hb := hR.2.2.2.2.2.2.1.2.1
  have hiff : (n = 1 ∧ (¬ z 1 = 1 ∨ zg z g 5 = 0)) ↔ (n = 1 ∧ ¬ (¬ jr = 0 ∧ ¬ G g 0 6 = 0)) := by
    rw [e1]
    by_cases c : jr = 1
    · have := (hR.2.2.2.2.1 (e1.trans c)).2.1
      omega
    · omega
  by_cases c : n = 1 ∧ ¬ (¬ jr = 0 ∧ ¬ G g 0 6 = 0)
  · have c' := hiff.2 c
    rw [if_pos c, if_pos c]
    have hMk := mMake_hd (z := z) (d := d) (g := g) (j := 1) hg.1 (by omega)
    have hM6 := mMake_6 (z := z) (d := d) hg.1
    have ew : mWrite z g n d = if z 1 = 1 then zs (mMake z g d) g 5 (z 6 + 1) else mMake z g d := by
      unfold mWrite
      rw [if_pos c', hMk, hM6]
    have hy : ∀ k : Int, k ≠ 5 → zg (mWrite z g n d) g k = zg (mMake z g d) g k := fun k hk => by
      rw [ew]
      split
      · rw [zg_zs_ne hk]
      · rfl
    have hh : ∀ j : Int, j < 6 → mWrite z g n d j = z j := fun j hj => by
      rw [ew]
      split
      · rw [zs_hd hg.1 (by omega) (by omega), mMake_hd hg.1 hj]
      · rw [mMake_hd hg.1 hj]
    have h6 : mWrite z g n d 6 = z 6 + 1 := by
      rw [ew]
      split
      · rw [zs_hd hg.1 (by omega) (by omega), hM6]
      · rw [hM6]
    refine ⟨RS_grp h hg (by omega) (fun j hj => hh j (by omega)) ((hh 4 (by omega)).trans h.1.2.2.2.2.1) ((hh 5 (by omega)).trans h.1.2.2.2.2.2) (by rw [h6]; omega) hMI (fun g' k' e c i j => ?_) ?_, ?_⟩
    · have hmg := mMake_g (z := z) (d := d) hg.1 e c ⟨i, j⟩ (by rw [hR.1.2.1]; omega)
      rw [ew]
      split
      · rw [zg_zs_g e (by omega) ⟨i, j⟩, hmg]
      · exact hmg
    · rw [h6]
      refine make_sim hR hg.1 hd ?_ hy ?_ h.2.2.1.2.2.2.2.1
      · rw [e1, h.1.1]
        rcases hj with q | q
        · rw [if_pos q, if_neg (by omega)]
        · rw [if_neg (by omega), if_pos q]
      · intro q
        rw [ew, if_pos q, zg_zs]
    · unfold mWriteR
      rw [if_pos c', hy 2 (by omega), mMake_k (by omega), mNew_2 hg.1, hR.1.2.2.1]
      exact (nO_step hR.2.2.2.2.2.2.1.1.1).symm
  · have c' : ¬ (n = 1 ∧ (¬ z 1 = 1 ∨ zg z g 5 = 0)) := fun q => c (hiff.1 q)
    have ht := s_told h hg hn
    have hth : thP (G g 0 1) (G g 0 2) (G g 1) (sOf (G g 0 1) (G g 0 5) (G g 0 6) n jr) := by
      by_cases q : thP (G g 0 1) (G g 0 2) (G g 1) (sOf (G g 0 1) (G g 0 5) (G g 0 6) n jr)
      · exact q
      · rw [if_neg q] at ht
        exact absurd ht (hw.elim (fun r => absurd r c') id)
    rw [if_pos hth] at ht
    rw [if_neg c, if_neg c, if_pos hth, if_pos hth]
    have ew : mWrite z g n d = zs z g (15 + 5 * (G g 0 1 - sOf (G g 0 1) (G g 0 5) (G g 0 6) n jr) + 2) d := by
      unfold mWrite
      rw [if_neg c', ht]
    have hs := s_data h hg hd hth
    rw [← ew] at hs
    refine ⟨?_, ?_⟩
    · obtain ⟨r1, r2, r3, r4⟩ := hs
      refine ⟨r1, ⟨r2.1, r2.2.1, r2.2.2.1, by omega⟩, hMI, fun g' a b => (r4 g' a b).mono (fun _ _ _ => rfl) (Int.le_refl _) (fun q => q) (by omega)⟩
    · unfold mWriteR
      have ht1 := hth.1
      have ht2 := hth.2.1
      rw [if_neg c', ht, ew, zg_zs_ne (by omega), (hR.2.1 _ (by omega) (by omega)).1]
      rw [show G g 0 1 - (G g 0 1 - sOf (G g 0 1) (G g 0 5) (G g 0 6) n jr) = sOf (G g 0 1) (G g 0 5) (G g 0 6) n jr by omega]
end
