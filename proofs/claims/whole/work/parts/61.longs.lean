-- longs as whole numbers
def lL (u : Int) : Int64 := Int64.ofInt u
theorem lL_and (u : Int) : lL u &&& lL 255 = lL (u % 256) := by
  apply Int64.toBitVec_inj.mp
  show BitVec.ofInt 64 u &&& BitVec.ofInt 64 255 = BitVec.ofInt 64 (u % 256)
  apply BitVec.eq_of_toNat_eq
  rw [BitVec.toNat_and]
  have e7 : (BitVec.ofInt 64 255).toNat = 2 ^ 8 - 1 := by decide
  rw [e7, Nat.and_two_pow_sub_one_eq_mod, BitVec.toNat_ofInt, BitVec.toNat_ofInt]
  omega
theorem lL_i (u : Int) : (lL u).toInt32 = iI u := Int64.toInt32_ofInt
theorem shk : ∀ k : Fin 64, ((iI (k.val : Int)).toInt64.toUInt64 &&& Int64.toUInt64 63) = UInt64.ofNat k.val := by decide +kernel
theorem lL_shr {u k : Int} (hu : 0 ≤ u ∧ u < 18446744073709551616) (hk : 0 ≤ k ∧ k < 64) : ((lL u).toUInt64 >>> ((iI k).toInt64.toUInt64 &&& Int64.toUInt64 63)).toInt64 = lL (u / 2 ^ k.toNat) := by
  have h1 := shk ⟨k.toNat, by omega⟩
  dsimp only at h1
  rw [Int.toNat_of_nonneg hk.1] at h1
  rw [h1]
  apply Int64.toBitVec_inj.mp
  show (UInt64.ofBitVec (BitVec.ofInt 64 u) >>> UInt64.ofNat k.toNat).toBitVec = BitVec.ofInt 64 (u / 2 ^ k.toNat)
  rw [UInt64.toBitVec_shiftRight]
  apply BitVec.eq_of_toNat_eq
  have hm : k.toNat < 64 := by omega
  have hkk : (UInt64.ofNat k.toNat).toBitVec.toNat = k.toNat := by
    show k.toNat % 2 ^ 64 = k.toNat
    exact Nat.mod_eq_of_lt (by omega)
  have hq0 : 0 ≤ u / 2 ^ k.toNat := Int.ediv_nonneg hu.1 (by exact Int.le_of_lt (Int.pow_pos (by decide)))
  have hq1 : u / 2 ^ k.toNat ≤ u := Int.ediv_le_self _ hu.1
  have e2 : ((UInt64.ofBitVec (BitVec.ofInt 64 u)).toBitVec >>> ((UInt64.ofNat k.toNat).toBitVec % 64)).toNat = u.toNat >>> k.toNat := by
    rw [BitVec.ushiftRight_eq', BitVec.toNat_ushiftRight, BitVec.toNat_umod, hkk]
    have e3 : (64 : BitVec 64).toNat = 64 := rfl
    rw [e3, Nat.mod_eq_of_lt hm]
    show (BitVec.ofInt 64 u).toNat >>> k.toNat = u.toNat >>> k.toNat
    rw [BitVec.toNat_ofInt]
    congr 1
    omega
  refine e2.trans ?_
  rw [BitVec.toNat_ofInt, Nat.shiftRight_eq_div_pow]
  have e4 : (u / 2 ^ k.toNat) = ((u.toNat / 2 ^ k.toNat : Nat) : Int) := by
    rw [Int.natCast_ediv, Int.toNat_of_nonneg hu.1, Int.natCast_pow]
    rfl
  rw [e4]
  have hlt : u.toNat / 2 ^ k.toNat < 2 ^ 64 := Nat.lt_of_le_of_lt (Nat.div_le_self _ _) (by omega)
  omega
def cmpI (u v : Int) : Int := if v < u then 1 else if u = v then 0 else -1
def sg0 (u : Int) : Int := if u = 0 then 0 else if u < 9223372036854775808 then 1 else -1
theorem lL_toInt {u : Int} (h : -9223372036854775808 ≤ u ∧ u < 9223372036854775808) : (lL u).toInt = u := Int64.toInt_ofInt_of_le h.1 h.2
theorem lL_cmp {u v : Int} (hu : 0 ≤ u ∧ u < 9223372036854775808) (hv : 0 ≤ v ∧ v < 9223372036854775808) : lg_cmp (lL u) (lL v) = iI (cmpI u v) := by
  unfold lg_cmp cmpI
  have h1 : lL v < lL u ↔ v < u := by rw [Int64.lt_iff_toInt_lt, lL_toInt ⟨by omega, by omega⟩, lL_toInt ⟨by omega, by omega⟩]
  have h2 : lL u = lL v ↔ u = v := by rw [← Int64.toInt_inj, lL_toInt ⟨by omega, by omega⟩, lL_toInt ⟨by omega, by omega⟩]
  by_cases a : v < u
  · rw [if_pos (h1.mpr a), if_pos a]; rfl
  · rw [if_neg (fun q => a (h1.mp q)), if_neg a]
    by_cases b : u = v
    · rw [if_pos (h2.mpr b), if_pos b]; rfl
    · rw [if_neg (fun q => b (h2.mp q)), if_neg b]; rfl
theorem c256 : ∀ u : Fin 256, ((iI (u.val : Int)).toUInt32 % 65536).toInt32 = iI (u.val : Int) ∧ vp_nar .char (iI (u.val : Int)) = iI (u.val : Int) := by decide +kernel
theorem i2c_ok {u : Int} (h : 0 ≤ u ∧ u < 256) : ((iI u).toUInt32 % 65536).toInt32 = iI u := by
  have := (c256 ⟨u.toNat, by omega⟩).1
  dsimp only at this
  rw [Int.toNat_of_nonneg h.1] at this
  exact this
theorem nar_ok {u : Int} (h : 0 ≤ u ∧ u < 256) : vp_nar .char (iI u) = iI u := by
  have := (c256 ⟨u.toNat, by omega⟩).2
  dsimp only at this
  rw [Int.toNat_of_nonneg h.1] at this
  exact this
