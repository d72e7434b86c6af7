-- numbers: an int as the image of a whole number
def iI (x : Int) : Int32 := Int32.ofInt x
abbrev rg (x : Int) : Prop := -2147483648 ≤ x ∧ x < 2147483648
theorem iI_add (a b : Int) : iI a + iI b = iI (a + b) := by
  apply Int32.toInt_inj.mp
  rw [Int32.toInt_add]
  simp only [iI, Int32.toInt_ofInt]
  exact (Int.add_bmod a b (2 ^ 32)).symm
theorem iI_neg (a : Int) : - iI a = iI (-a) := Int32.neg_ofInt
theorem iI_sub (a b : Int) : iI a - iI b = iI (a - b) := by rw [Int32.sub_eq_add_neg, iI_neg, iI_add, Int.sub_eq_add_neg]
theorem iI_mul (a b : Int) : iI a * iI b = iI (a * b) := by
  apply Int32.toInt_inj.mp
  rw [Int32.toInt_mul]
  simp only [iI, Int32.toInt_ofInt]
  exact (Int.mul_bmod a b (2 ^ 32)).symm
theorem iI_toInt (x : Int32) : iI x.toInt = x := Int32.ofInt_toInt x
theorem iI_rg (x : Int32) : rg x.toInt := ⟨x.le_toInt, x.toInt_lt⟩
theorem toInt_iI {x : Int} (h : rg x) : (iI x).toInt = x := Int32.toInt_ofInt_of_le h.1 h.2
theorem iI_le {a b : Int} (ha : rg a) (hb : rg b) : iI a ≤ iI b ↔ a ≤ b := by rw [Int32.le_iff_toInt_le, toInt_iI ha, toInt_iI hb]
theorem iI_lt {a b : Int} (ha : rg a) (hb : rg b) : iI a < iI b ↔ a < b := by rw [Int32.lt_iff_toInt_lt, toInt_iI ha, toInt_iI hb]
theorem iI_eq {a b : Int} (ha : rg a) (hb : rg b) : iI a = iI b ↔ a = b := by rw [← Int32.toInt_inj, toInt_iI ha, toInt_iI hb]
theorem iI_0 : (0 : Int32) = iI 0 := rfl
theorem iI_ix {x : Int} (h : rg x) : (iI x).toNatClampNeg = x.toNat := Int32.toNatClampNeg_ofInt_of_le h.1 h.2
theorem iI_in {x : Int} {n : Nat} (h0 : 0 ≤ x) (h1 : x < n) (hn : x < 2147483648) : vp_in (iI x) n := by
  have hr : rg x := ⟨by omega, hn⟩
  intro h
  rcases h with h | h
  · rw [iI_0, iI_lt hr ⟨by omega, by omega⟩] at h
    omega
  · rw [iI_ix hr] at h
    omega
theorem iI_nI (n : Nat) : iI (n : Int) = nI n := Int32.ofInt_eq_ofNat
theorem iI_rem {a b : Int} (ha : rg a) (hb : rg b) (h0 : 0 < b) : iI a - iI a / iI b * iI b = iI (a.tmod b) := by
  apply Int32.toInt_inj.mp
  have hne : iI b ≠ -1 := fun e => by
    have h1 : (iI b).toInt = (-1 : Int32).toInt := by rw [e]
    rw [toInt_iI hb] at h1
    have h2 : (-1 : Int32).toInt = -1 := rfl
    omega
  have hd : (iI a / iI b).toInt = a.tdiv b := by rw [Int32.toInt_div_of_ne_right _ _ hne, toInt_iI ha, toInt_iI hb]
  have e1 : iI a / iI b = iI (a.tdiv b) := by rw [← hd, iI_toInt]
  rw [e1, iI_mul, iI_sub]
  have e2 : a - a.tdiv b * b = a.tmod b := by
    have h := Int.mul_tdiv_add_tmod a b
    have h3 : a.tdiv b * b = b * a.tdiv b := Int.mul_comm _ _
    omega
  rw [e2]
theorem iI_and7 (x : Int) : iI x &&& iI 7 = iI (x % 8) := by
  apply Int32.toBitVec_inj.mp
  show BitVec.ofInt 32 x &&& BitVec.ofInt 32 7 = BitVec.ofInt 32 (x % 8)
  apply BitVec.eq_of_toNat_eq
  rw [BitVec.toNat_and]
  have e7 : (BitVec.ofInt 32 7).toNat = 2 ^ 3 - 1 := by decide
  rw [e7, Nat.and_two_pow_sub_one_eq_mod, BitVec.toNat_ofInt, BitVec.toNat_ofInt]
  omega
theorem upd_iI (f : Nat → Int) (k : Nat) (x : Int) : upd (fun j => iI (f j)) k (iI x) = fun j => iI (va_up f k x j) := by
  funext j
  show (if j = k then iI x else iI (f j)) = iI (if j = k then x else f j)
  split <;> rfl
-- worlds by members
theorem zP_iff {D : va_G} {cl : List vw_C} {ws : va_W} {H : Heap} : va_P D cl ws H ↔ ∀ q ∈ ws, va_at D cl q H := by
  constructor
  · intro h q hq
    obtain ⟨i, hi⟩ := List.getElem?_of_mem hq
    exact h i q hi
  · intro h k q hk
    exact h q (List.mem_of_getElem? hk)
theorem zP_perm {D : va_G} {cl : List vw_C} {w1 w2 : va_W} {H : Heap} (h : va_P D cl w1 H) (hp : w1.Perm w2) : va_P D cl w2 H :=
  zP_iff.mpr fun q hq => zP_iff.mp h q (hp.mem_iff.mpr hq)
theorem zD_iff {A : Nat → Prop} {ws : va_W} : va_D A ws ↔ (ws.map Prod.fst).Nodup ∧ ∀ q ∈ ws, A q.1 := by
  constructor
  · intro h
    refine ⟨?_, fun q hq => ?_⟩
    · rw [List.nodup_iff_pairwise_ne, List.pairwise_iff_getElem]
      intro i j hi hj hij he
      rw [List.length_map] at hi hj
      rw [List.getElem_map, List.getElem_map] at he
      have := h.1 i j _ _ (List.getElem?_eq_getElem hi) (List.getElem?_eq_getElem hj) he
      omega
    · obtain ⟨i, hi⟩ := List.getElem?_of_mem hq
      exact h.2 i q hi
  · intro h
    refine ⟨fun i j p q hp hq he => ?_, fun k q hk => h.2 q (List.mem_of_getElem? hk)⟩
    have h1 := h.1
    rw [List.nodup_iff_pairwise_ne, List.pairwise_iff_getElem] at h1
    obtain ⟨hi, ei⟩ := List.getElem?_eq_some_iff.mp hp
    obtain ⟨hj, ej⟩ := List.getElem?_eq_some_iff.mp hq
    rcases Nat.lt_trichotomy i j with c | c | c
    · have := h1 i j (by simpa using hi) (by simpa using hj) c
      simp only [List.getElem_map, ei, ej] at this
      exact absurd he this
    · exact c
    · have := h1 j i (by simpa using hj) (by simpa using hi) c
      simp only [List.getElem_map, ei, ej] at this
      exact absurd he.symm this
theorem zD_perm {A : Nat → Prop} {w1 w2 : va_W} (h : va_D A w1) (hp : w1.Perm w2) : va_D A w2 := by
  rw [zD_iff] at h ⊢
  exact ⟨(hp.map Prod.fst).nodup h.1, fun q hq => h.2 q (hp.mem_iff.mpr hq)⟩
theorem zA_perm {w1 w2 : va_W} {sz : Nat} (hp : w1.Perm w2) {q : Nat} (h : va_A w1 sz q) : va_A w2 sz q := by
  rcases h with ⟨k, e, h⟩ | h
  · obtain ⟨i, hi⟩ := List.getElem?_of_mem (hp.mem_iff.mp (List.mem_of_getElem? h))
    exact Or.inl ⟨i, e, hi⟩
  · exact Or.inr h
theorem zP_left {D : va_G} {cl : List vw_C} {w1 w2 : va_W} {H : Heap} (h : va_P D cl (w1 ++ w2) H) : va_P D cl w1 H :=
  zP_iff.mpr fun q hq => zP_iff.mp h q (List.mem_append_left _ hq)
theorem zP_right {D : va_G} {cl : List vw_C} {w1 w2 : va_W} {H : Heap} (h : va_P D cl (w1 ++ w2) H) : va_P D cl w2 H :=
  zP_iff.mpr fun q hq => zP_iff.mp h q (List.mem_append_right _ hq)
theorem zD_app {A : Nat → Prop} {w1 w2 : va_W} : va_D A (w1 ++ w2) ↔ va_D A w1 ∧ va_D A w2 ∧ ∀ p ∈ w1, ∀ q ∈ w2, p.1 ≠ q.1 := by
  rw [zD_iff, zD_iff, zD_iff, List.map_append, List.nodup_append]
  constructor
  · rintro ⟨⟨h1, h2, h3⟩, h4⟩
    refine ⟨⟨h1, fun q hq => h4 q (List.mem_append_left _ hq)⟩, ⟨h2, fun q hq => h4 q (List.mem_append_right _ hq)⟩, fun p hp q hq => ?_⟩
    exact h3 p.1 (List.mem_map_of_mem hp) q.1 (List.mem_map_of_mem hq)
  · rintro ⟨⟨h1, h4⟩, ⟨h2, h5⟩, h3⟩
    refine ⟨⟨h1, h2, fun a ha b hb => ?_⟩, fun q hq => (List.mem_append.mp hq).elim (h4 q) (h5 q)⟩
    obtain ⟨p, hp, rfl⟩ := List.mem_map.mp ha
    obtain ⟨q, hq, rfl⟩ := List.mem_map.mp hb
    exact h3 p hp q hq
/-- behind a call: what came back beside the rest, which is unchanged -/
theorem z_join {D : va_G} {cl : List vw_C} {A0 : Nat → Prop} {w wr w1 : va_W} {H H1 : Heap} (hP : va_P D cl (w ++ wr) H) (hD : va_D A0 (w ++ wr)) (hk : ∀ q : Nat, q < H.size → ¬ va_A w H.size q → H1[q]? = H[q]?) (hF : ∀ q, va_A w H.size q → A0 q) (hP1 : va_P D cl w1 H1) (hD1 : va_D (va_A w H.size) w1) : va_P D cl (w1 ++ wr) H1 ∧ va_D A0 (w1 ++ wr) := by
  have hx := (zD_app.mp hD).2.2
  have hout : ∀ q ∈ wr, q.1 < H.size ∧ ¬ va_A w H.size q.1 := by
    intro q hq
    have hl : q.1 < H.size := by
      obtain ⟨i, hi⟩ := List.getElem?_of_mem (List.mem_append_right w hq)
      exact (hP i q hi).lt
    refine ⟨hl, fun h => ?_⟩
    rcases h with ⟨k, e, h⟩ | h
    · exact hx _ (List.mem_of_getElem? h) q hq rfl
    · omega
  refine ⟨zP_iff.mpr fun q hq => ?_, zD_app.mpr ⟨hD1.weaken (fun _ q _ h => hF q.1 h), (zD_app.mp hD).2.1, fun p hp q hq he => ?_⟩⟩
  · rcases List.mem_append.mp hq with h | h
    · exact zP_iff.mp hP1 q h
    · exact (zP_iff.mp (zP_right hP) q h).kept (hk q.1 (hout q h).1 (hout q h).2)
  · obtain ⟨i, hi⟩ := List.getElem?_of_mem hp
    have := hD1.2 i p hi
    rw [he] at this
    exact (hout q hq).2 this
