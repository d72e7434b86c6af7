theorem sh1 {g : Int} (h0 : 0 ≤ g) (h5 : g ≤ 5) : iI 1 <<< (iI g &&& 31) = iI (2 ^ g.toNat) := by
  rcases (show g = 0 ∨ g = 1 ∨ g = 2 ∨ g = 3 ∨ g = 4 ∨ g = 5 by omega) with rfl | rfl | rfl | rfl | rfl | rfl <;> rfl
theorem ior_0 (n : Int) : iI n ||| iI 0 = iI n := by
  apply Int32.toBitVec_inj.mp
  show BitVec.ofInt 32 n ||| BitVec.ofInt 32 0 = BitVec.ofInt 32 n
  simp
theorem ior_tab : ∀ g : Fin 6, ∀ n : Fin 32, n.val < 2 ^ g.val → iI (n.val : Int) ||| iI (2 ^ g.val) = iI ((n.val : Int) + 2 ^ g.val) := by decide +kernel
theorem ior_p {n g : Int} (h0 : 0 ≤ g) (h5 : g ≤ 5) (hn : 0 ≤ n ∧ n < 2 ^ g.toNat) : iI n ||| iI (2 ^ g.toNat) = iI (n + 2 ^ g.toNat) := by
  have hlt : n < 32 := by
    rcases (show g = 0 ∨ g = 1 ∨ g = 2 ∨ g = 3 ∨ g = 4 ∨ g = 5 by omega) with rfl | rfl | rfl | rfl | rfl | rfl <;> (have := hn.2; simp at this; omega)
  have hg6 : g.toNat < 6 := by omega
  have hn2 : n.toNat < 32 := by omega
  have hx : n.toNat < 2 ^ g.toNat := by
    have h1 : ((n.toNat : Nat) : Int) < ((2 ^ g.toNat : Nat) : Int) := by
      rw [Int.toNat_of_nonneg hn.1, Int.natCast_pow]
      exact hn.2
    exact Int.ofNat_lt.mp h1
  have := ior_tab ⟨g.toNat, hg6⟩ ⟨n.toNat, hn2⟩ hx
  dsimp only at this
  rw [Int.toNat_of_nonneg hn.1] at this
  exact this
theorem itr_invB {A : Type} (P : A → Prop) {f : Int → A → A} {a : A} (N : Nat) (h0 : P a) (hs : ∀ (i : Int) (x : A), 0 ≤ i → i < N → P x → P (f i x)) : ∀ n : Nat, n ≤ N → P (itr f a n)
  | 0, _ => h0
  | n + 1, h => hs n _ (by omega) (by omega) (itr_invB P N h0 hs n (by omega))
theorem mFail_inv {z : Int → Int} {w : Int} (hm : AG z) (hz : CZ z) : AG (mFail z w) ∧ CZ (mFail z w) ∧ (∀ j : Int, j < 7 → mFail z w j = z j) := by
  by_cases hw : w = 0
  · rw [mFail_w hw]
    refine itr_invB (P := fun y => AG y ∧ CZ y ∧ ∀ j : Int, j < 7 → y j = z j) 6 ⟨hm, hz, fun _ _ => rfl⟩ ?_ 6 (Nat.le_refl 6)
    intro g y h0 h6 ⟨h1, h2, h3⟩
    have hy := h1 g h0 (by omega)
    have hp := mMade_rg (z := y) (g := g) hy.1
    show AG (mFail1 y g) ∧ CZ (mFail1 y g) ∧ ∀ j : Int, j < 7 → mFail1 y g j = z j
    unfold mFail1
    split
    · exact ⟨h1, h2, h3⟩
    · refine ⟨AG_mDel h1 (by omega) (by omega), CZ_mDel h2 (by omega) hy (by omega), fun j hj => ?_⟩
      rw [mDel_hd h0 (by omega) hj]
      exact h3 j hj
  · rw [mFail_n hw]
    exact ⟨hm, hz, fun _ _ => rfl⟩
theorem zg_mEnd0 {z : Int → Int} {w g k : Int} (hg : 0 ≤ g) (hk : 0 ≤ k) : zg (mEnd0 z w) g k = zg z g k := by
  unfold mEnd0
  rw [zg_hd hg hk (by omega), zg_hd hg hk (by omega), zg_hd hg hk (by omega)]
theorem mEnd_inv {z : Int → Int} {w : Int} (hm : AG z) (hz : CZ z) : AG (mEnd z w) ∧ CZ (mEnd z w) ∧ mEnd z w 1 = 0 := by
  obtain ⟨h1, h2, h3⟩ := mFail_inv (w := w) hm hz
  refine ⟨fun g a b => ?_, fun g k hk => ?_, rfl⟩
  · unfold mEnd
    rw [zg_mEnd0 a (by omega)]
    exact h1 g a b
  · unfold mEnd
    rw [zg_mEnd0 (by omega) (by omega)]
    exact h2 g k hk
def mIfF (z : Int → Int) : Int → Int := if z 1 = 1 then mEnd z 0 else z
def mSet (z : Int → Int) (k : Int) : Int := itr (fun g n => n + (if (k = 0 ∧ 0 < mHoles z g) ∨ (k = 1 ∧ (z 1 = 1 ∧ ¬ zg z g 5 = 0 ∧ mPlace z g (zg z g 5) = 0)) ∨ (k = 2 ∧ mTold z g 0 = -6) then 2 ^ g.toNat else 0)) 0 6
