-- the pad's methods as functions
def Sg (sg : Int → Int) (le ps : Int) : Int := if 0 ≤ ps ∧ ps < le then sg ps else 0
theorem Sg_rg {sg : Int → Int} {le ps : Int} (h : PD sg le) : 0 ≤ Sg sg le ps ∧ Sg sg le ps ≤ 127 := by
  unfold Sg
  split
  · exact h ps (by omega) (by omega)
  · omega
def pL (k : Int) : Int := if k = 106 ∨ k = 103 ∨ k = 102 ∨ k = 97 then 13 else if k = 119 then 3 else if k = 114 ∨ k = 100 then 2 else 0
def pN (k a b : Int) : Int := if k = 45 then a else if k = 48 ∨ k = 43 then b else 0
def pO (k : Int) : Int := if k = 59 then 1 else 0
def PB (pl k : Int) : Int := if pl = 1 then pL k else if pl = 2 then (if 48 ≤ k ∧ k ≤ 53 then 4 else 0) else if pl = 3 then (if 48 ≤ k ∧ k ≤ 53 then 5 else 0) else if pl = 4 then pN k 6 13 else if pl = 5 then pN k 7 8 else if pl = 6 then (if 49 ≤ k ∧ k ≤ 55 then 13 else 0) else if pl = 7 then (if 49 ≤ k ∧ k ≤ 55 then 8 else 0) else if pl = 8 then (if k = 61 then 9 else 0) else if pl = 9 then (if k = 48 then 13 else if 48 ≤ k ∧ k ≤ 57 then 10 else 0) else if pl = 10 then (if 48 ≤ k ∧ k ≤ 57 then 11 else pO k) else if pl = 11 then (if 48 ≤ k ∧ k ≤ 57 then 12 else pO k) else if pl = 12 then (if 48 ≤ k ∧ k ≤ 57 then 13 else pO k) else pO k
theorem pL_rg (k : Int) : 0 ≤ pL k ∧ pL k ≤ 13 := by unfold pL; repeat' split <;> omega
theorem pN_rg {k a b : Int} (ha : 0 ≤ a ∧ a ≤ 13) (hb : 0 ≤ b ∧ b ≤ 13) : 0 ≤ pN k a b ∧ pN k a b ≤ 13 := by unfold pN; repeat' split <;> omega
theorem pO_rg (k : Int) : 0 ≤ pO k ∧ pO k ≤ 13 := by unfold pO; split <;> omega
theorem PB_rg (pl k : Int) : 0 ≤ PB pl k ∧ PB pl k ≤ 13 := by
  have h1 := pL_rg k
  have h2 := pN_rg (k := k) (a := 6) (b := 13) (by omega) (by omega)
  have h3 := pN_rg (k := k) (a := 7) (b := 8) (by omega) (by omega)
  have h4 := pO_rg k
  unfold PB
  by_cases a1 : pl = 1
  · rw [if_pos a1]; exact h1
  rw [if_neg a1]
  by_cases a2 : pl = 2
  · rw [if_pos a2]; split <;> omega
  rw [if_neg a2]
  by_cases a3 : pl = 3
  · rw [if_pos a3]; split <;> omega
  rw [if_neg a3]
  by_cases a4 : pl = 4
  · rw [if_pos a4]; exact h2
  rw [if_neg a4]
  by_cases a5 : pl = 5
  · rw [if_pos a5]; exact h3
  rw [if_neg a5]
  by_cases a6 : pl = 6
  · rw [if_pos a6]; split <;> omega
  rw [if_neg a6]
  by_cases a7 : pl = 7
  · rw [if_pos a7]; split <;> omega
  rw [if_neg a7]
  by_cases a8 : pl = 8
  · rw [if_pos a8]; split <;> omega
  rw [if_neg a8]
  by_cases a9 : pl = 9
  · rw [if_pos a9]
    by_cases b : k = 48
    · rw [if_pos b]; omega
    · rw [if_neg b]; split <;> omega
  rw [if_neg a9]
  by_cases a10 : pl = 10
  · rw [if_pos a10]
    by_cases b : 48 ≤ k ∧ k ≤ 57
    · rw [if_pos b]; omega
    · rw [if_neg b]; exact h4
  rw [if_neg a10]
  by_cases a11 : pl = 11
  · rw [if_pos a11]
    by_cases b : 48 ≤ k ∧ k ≤ 57
    · rw [if_pos b]; omega
    · rw [if_neg b]; exact h4
  rw [if_neg a11]
  by_cases a12 : pl = 12
  · rw [if_pos a12]
    by_cases b : 48 ≤ k ∧ k ≤ 57
    · rw [if_pos b]; omega
    · rw [if_neg b]; exact h4
  rw [if_neg a12]
  exact h4
def cFN (sg : Int → Int) (le : Int) : Nat → Int → Int → Int
  | 0, pl, _ => if 10 ≤ pl then -6 else le
  | n + 1, pl, ps => if ps < le then (if PB pl (sg ps) = 0 then ps else cFN sg le n (PB pl (sg ps)) (ps + 1)) else (if 10 ≤ pl then -6 else le)
def cF (sg : Int → Int) (le : Int) : Int := cFN sg le le.toNat 1 0
theorem cFN_end {sg : Int → Int} {le pl ps : Int} (h : le ≤ ps) : cFN sg le (le - ps).toNat pl ps = if 10 ≤ pl then -6 else le := by
  rw [show (le - ps).toNat = 0 by omega]
  rfl
theorem cFN_bad {sg : Int → Int} {le pl ps : Int} (h : ¬ le ≤ ps) (h2 : PB pl (sg ps) = 0) : cFN sg le (le - ps).toNat pl ps = ps := by
  obtain ⟨n, hn⟩ : ∃ n : Nat, (le - ps).toNat = n + 1 := ⟨(le - ps).toNat - 1, by omega⟩
  rw [hn]
  show (if ps < le then (if PB pl (sg ps) = 0 then ps else _) else _) = ps
  rw [if_pos (by omega), if_pos h2]
theorem cFN_step {sg : Int → Int} {le pl ps : Int} (h : ¬ le ≤ ps) (h2 : ¬ PB pl (sg ps) = 0) : cFN sg le (le - ps).toNat pl ps = cFN sg le (le - (ps + 1)).toNat (PB pl (sg ps)) (ps + 1) := by
  obtain ⟨n, hn⟩ : ∃ n : Nat, (le - ps).toNat = n + 1 := ⟨(le - ps).toNat - 1, by omega⟩
  rw [hn, show (le - (ps + 1)).toNat = n by omega]
  show (if ps < le then (if PB pl (sg ps) = 0 then ps else _) else _) = _
  rw [if_pos (by omega), if_neg h2]
def nOO (sg : Int → Int) (le ps : Int) : Int := if Sg sg le (ps + 2) = 43 then 1 else if Sg sg le (ps + 2) = 45 then 48 - Sg sg le (ps + 3) else 0
def dN (sg : Int → Int) (le : Int) : Nat → Int → Int → Int
  | 0, v, _ => v
  | n + 1, v, i => if i < le ∧ 48 ≤ Sg sg le i ∧ Sg sg le i ≤ 57 then dN sg le n (10 * v + Sg sg le i - 48) (i + 1) else v
theorem dN_stop {sg : Int → Int} {le v i : Int} (h : ¬ (i < le ∧ 48 ≤ Sg sg le i ∧ Sg sg le i ≤ 57)) : ∀ n : Nat, dN sg le n v i = v
  | 0 => rfl
  | _ + 1 => if_neg h
theorem dN_step {sg : Int → Int} {le v i : Int} (h : i < le ∧ 48 ≤ Sg sg le i ∧ Sg sg le i ≤ 57) : dN sg le (le - i).toNat v i = dN sg le (le - (i + 1)).toNat (10 * v + Sg sg le i - 48) (i + 1) := by
  obtain ⟨n, hn⟩ : ∃ n : Nat, (le - i).toNat = n + 1 := ⟨(le - i).toNat - 1, by omega⟩
  rw [hn, show (le - (i + 1)).toNat = n by omega]
  exact if_pos h
def dOO (sg : Int → Int) (le ps : Int) : Int := dN sg le (le - (ps + (if Sg sg le (ps + 2) = 45 then 5 else 4))).toNat 0 (ps + (if Sg sg le (ps + 2) = 45 then 5 else 4))
