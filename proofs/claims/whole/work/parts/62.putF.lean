theorem lL_wrap (u : Int) : lL u = lL (u - 18446744073709551616) := by
  apply Int64.toBitVec_inj.mp
  show BitVec.ofInt 64 u = BitVec.ofInt 64 (u - 18446744073709551616)
  apply BitVec.eq_of_toNat_eq
  rw [BitVec.toNat_ofInt, BitVec.toNat_ofInt]
  omega
theorem lL_cmp0 {u : Int} (hu : 0 ≤ u ∧ u < 18446744073709551616) : lg_cmp (lL u) (lL 0) = iI (sg0 u) := by
  by_cases h : u < 9223372036854775808
  · rw [lL_cmp ⟨hu.1, h⟩ ⟨by omega, by omega⟩]
    congr 1
    unfold cmpI sg0
    by_cases h0 : u = 0
    · rw [if_neg (by omega), if_pos h0, if_pos h0]
    · rw [if_pos (by omega), if_neg h0, if_pos h]
  · have e : (lL u).toInt = u - 18446744073709551616 := by rw [lL_wrap, lL_toInt ⟨by omega, by omega⟩]
    have e0 : (lL 0).toInt = 0 := rfl
    unfold lg_cmp sg0
    have h1 : ¬ (lL u > lL 0) := fun q => by
      have q2 : lL 0 < lL u := q
      rw [Int64.lt_iff_toInt_lt, e, e0] at q2
      omega
    have h2 : ¬ lL u = lL 0 := fun q => by
      have q2 := congrArg Int64.toInt q
      rw [e, e0] at q2
      omega
    rw [if_neg h1, if_neg h2, if_neg (by omega), if_neg h]
    rfl
theorem sg0_rg (u : Int) : rg (sg0 u) := by
  unfold sg0
  exact rg_if (fun _ => ⟨by omega, by omega⟩) (fun _ => rg_if (fun _ => ⟨by omega, by omega⟩) (fun _ => ⟨by omega, by omega⟩))
theorem cmpI_rg (u v : Int) : rg (cmpI u v) := by
  unfold cmpI
  exact rg_if (fun _ => ⟨by omega, by omega⟩) (fun _ => rg_if (fun _ => ⟨by omega, by omega⟩) (fun _ => ⟨by omega, by omega⟩))
theorem sg0_eq {u : Int} : sg0 u = 0 ↔ u = 0 := by
  unfold sg0
  by_cases h : u = 0
  · rw [if_pos h]; omega
  · rw [if_neg h]; split <;> omega
theorem cmpI_lt {u v : Int} : cmpI u v < 0 ↔ u < v := by
  unfold cmpI
  by_cases h : v < u
  · rw [if_pos h]; omega
  · rw [if_neg h]; split <;> omega
theorem cmpI_le {u v : Int} : cmpI u v ≤ 0 ↔ u ≤ v := by
  unfold cmpI
  by_cases h : v < u
  · rw [if_pos h]; omega
  · rw [if_neg h]; split <;> omega
theorem lL_shr8 {u : Int} (hu : 0 ≤ u ∧ u < 18446744073709551616) : ((lL u).toUInt64 >>> ((iI 8).toInt64.toUInt64 &&& Int64.toUInt64 63)).toInt64 = lL (u / 256) := lL_shr hu (k := 8) (by omega)
def nC : Nat → Int → Int → Int
  | 0, r, f => if r = 0 then f else 0
  | k + 1, r, f => if ¬ r % 256 = 0 then (if r % 256 < 33 ∨ 126 < r % 256 then 0 else nC k (r / 256) (f + 1)) else (if r = 0 then f else 0)
theorem nC_un (k : Nat) (r f : Int) : nC (k + 1) r f = if ¬ r % 256 = 0 then (if r % 256 < 33 ∨ 126 < r % 256 then 0 else nC k (r / 256) (f + 1)) else (if r = 0 then f else 0) := rfl
theorem nC_z {r f : Int} (h : r % 256 = 0) : ∀ k : Nat, nC k r f = if r = 0 then f else 0
  | 0 => rfl
  | _ + 1 => if_neg (fun q => q h)
theorem nC_end {r f : Int} (h : 8 ≤ f) : nC (8 - f).toNat r f = if r = 0 then f else 0 := by
  rw [show (8 - f).toNat = 0 by omega]
  rfl
theorem nC_bad {r f : Int} (h : ¬ 8 ≤ f) (h1 : ¬ r % 256 = 0) (h2 : r % 256 < 33 ∨ 126 < r % 256) : nC (8 - f).toNat r f = 0 := by
  obtain ⟨n, hn⟩ : ∃ n : Nat, (8 - f).toNat = n + 1 := ⟨(8 - f).toNat - 1, by omega⟩
  rw [hn, nC_un, if_pos h1, if_pos h2]
theorem nC_step {r f : Int} (h : ¬ 8 ≤ f) (h1 : ¬ r % 256 = 0) (h2 : ¬ (r % 256 < 33 ∨ 126 < r % 256)) : nC (8 - f).toNat r f = nC (8 - (f + 1)).toNat (r / 256) (f + 1) := by
  obtain ⟨n, hn⟩ : ∃ n : Nat, (8 - f).toNat = n + 1 := ⟨(8 - f).toNat - 1, by omega⟩
  rw [hn, show (8 - (f + 1)).toNat = n by omega, nC_un, if_pos h1, if_neg h2]
theorem nC_rg : ∀ (k : Nat) (r f : Int), 0 ≤ f → 0 ≤ nC k r f ∧ nC k r f ≤ f + k
  | 0, r, f, h => by
    show 0 ≤ (if r = 0 then f else 0) ∧ (if r = 0 then f else 0) ≤ f + ((0 : Nat) : Int)
    split <;> omega
  | k + 1, r, f, h => by
    by_cases h1 : r % 256 = 0
    · rw [nC_z h1]
      split <;> omega
    · by_cases h2 : r % 256 < 33 ∨ 126 < r % 256
      · have e : nC (k + 1) r f = 0 := by
          rw [nC_un, if_pos h1, if_pos h2]
        rw [e]; omega
      · have e : nC (k + 1) r f = nC k (r / 256) (f + 1) := by
          rw [nC_un, if_pos h1, if_neg h2]
        rw [e]
        have := nC_rg k (r / 256) (f + 1) (by omega)
        omega
def chA (u sh : Int) : Int := u / 2 ^ sh.toNat % 256
theorem chA_rg (u sh : Int) : 0 ≤ chA u sh ∧ chA u sh < 256 := by unfold chA; omega
def apS (sg : Int → Int) (le u mo : Int) : Int → Int := itr (fun j y => iU y (le + j) (chA u (8 * (mo - 1 - j)))) sg mo.toNat
def pNm : Nat → Int → Int → Int × Int
  | 0, _, n => (n, 1)
  | k + 1, r, n => if r = 0 then (n, 1) else if 33 ≤ r % 256 ∧ r % 256 ≤ 126 then pNm k (r / 256) (n + 1) else (n + 1, 0)
theorem pNm_0 {n : Int} : ∀ k : Nat, pNm k 0 n = (n, 1)
  | 0 => rfl
  | _ + 1 => if_pos rfl
