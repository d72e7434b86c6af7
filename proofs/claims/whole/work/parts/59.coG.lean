theorem coC_rg {sg : Int → Int} {le : Int} : ∀ (k : Nat) (ps dn : Int) (N : zSt), dn ≤ (coC sg le k ps dn N).1 ∧ (coC sg le k ps dn N).1 ≤ dn + k
  | 0, ps, dn, N => by
    show dn ≤ dn ∧ dn ≤ dn + ((0 : Nat) : Int)
    omega
  | k + 1, ps, dn, N => by
    by_cases h1 : ps = 0 ∨ Sg sg le (ps - 1) = 59
    · by_cases h2 : oRN sg le ps N < 0 ∧ ¬ oRN sg le ps N = -6
      · have e : coC sg le (k + 1) ps dn N = (dn, oSN sg le ps N) := by
          show (if _ then (if _ then _ else _) else _) = _
          rw [if_pos h1, if_pos h2]
        rw [e]
        dsimp only
        omega
      · have e : coC sg le (k + 1) ps dn N = coC sg le k (ps + 1) (dn + 1) (oSN sg le ps N) := by
          show (if _ then (if _ then _ else _) else _) = _
          rw [if_pos h1, if_neg h2]
        rw [e]
        have := coC_rg (sg := sg) (le := le) k (ps + 1) (dn + 1) (oSN sg le ps N)
        omega
    · have e : coC sg le (k + 1) ps dn N = coC sg le k (ps + 1) dn N := by
        show (if _ then (if _ then _ else _) else _) = _
        rw [if_neg h1]
      rw [e]
      have := coC_rg (sg := sg) (le := le) k (ps + 1) dn N
      omega
theorem cFN_rg {sg : Int → Int} {le : Int} (hl : 0 ≤ le) : ∀ (k : Nat) (pl ps : Int), 0 ≤ ps → ps + k ≤ le + 1 → -6 ≤ cFN sg le k pl ps ∧ cFN sg le k pl ps ≤ le
  | 0, pl, ps, h, h2 => by
    show -6 ≤ (if 10 ≤ pl then -6 else le) ∧ (if 10 ≤ pl then -6 else le) ≤ le
    split <;> omega
  | k + 1, pl, ps, h, h2 => by
    show -6 ≤ (if ps < le then (if PB pl (sg ps) = 0 then ps else cFN sg le k (PB pl (sg ps)) (ps + 1)) else (if 10 ≤ pl then -6 else le)) ∧ (if ps < le then (if PB pl (sg ps) = 0 then ps else cFN sg le k (PB pl (sg ps)) (ps + 1)) else (if 10 ≤ pl then -6 else le)) ≤ le
    by_cases a : ps < le
    · rw [if_pos a]
      by_cases b : PB pl (sg ps) = 0
      · rw [if_pos b]; omega
      · rw [if_neg b]
        exact cFN_rg hl k _ _ (by omega) (by omega)
    · rw [if_neg a]
      split <;> omega
theorem cF_rg {sg : Int → Int} {le : Int} (hl : 0 ≤ le) : -6 ≤ cF sg le ∧ cF sg le ≤ le := cFN_rg hl le.toNat 1 0 (by omega) (by omega)
