section
variable (pd : Int → Int) (ty wr st : Int)
def q1W : Int := wW (zb (Lt pd ty st = 119 ∨ Lt pd ty st = 114 ∨ Lt pd ty st = 100 ∨ Lt pd ty st = 106 ∨ Lt pd ty st = 103 ∨ Lt pd ty st = 102 ∨ Lt pd ty st = 97)) wr st
def q1S : Int := wS wr st
def q2W : Int := dW 0 5 (Lt pd ty (q1S wr st)) (q1W pd ty wr st) (q1S wr st)
def q2S : Int := wS (q1W pd ty wr st) (q1S wr st)
def q3W : Int := naW pd ty (q2W pd ty wr st) (q2S pd ty wr st)
def q3S : Int := naS pd ty (q2W pd ty wr st) (q2S pd ty wr st)
def q4W : Int := wW (zb (Lt pd ty (q3S pd ty wr st) = 61)) (q3W pd ty wr st) (q3S pd ty wr st)
def q4S : Int := wS (q3W pd ty wr st) (q3S pd ty wr st)
def q5W : Int := dW 0 9 (Lt pd ty (q4S pd ty wr st)) (q4W pd ty wr st) (q4S pd ty wr st)
def q5S : Int := (nR pd ty (q4W pd ty wr st) (q4S pd ty wr st)).2
def roW : Int := if Lt pd ty st = 119 then q5W pd ty wr st else if Lt pd ty st = 114 ∨ Lt pd ty st = 100 then q3W pd ty wr st else q1W pd ty wr st
def roS : Int := if Lt pd ty st = 119 then q5S pd ty wr st else if Lt pd ty st = 114 ∨ Lt pd ty st = 100 then q3S pd ty wr st else q1S wr st
def roD3 (od : Int → Int) (om : Int) : Int → Int := iU (iU (iU od (4 * om) (Lt pd ty st)) (4 * om + 1) (Lt pd ty (q1S wr st) - 48)) (4 * om + 2) (naV pd ty (q2W pd ty wr st) (q2S pd ty wr st))
def roD (od : Int → Int) (om : Int) : Int → Int := if Lt pd ty st = 119 then iU (roD3 pd ty wr st od om) (4 * om + 3) (nR pd ty (q4W pd ty wr st) (q4S pd ty wr st)).1 else if Lt pd ty st = 114 ∨ Lt pd ty st = 100 then roD3 pd ty wr st od om else iU od (4 * om) (Lt pd ty st)
end
section
variable {pd : Int → Int} {ty wr st n : Int}
theorem naS_rg : st ≤ naS pd ty wr st ∧ naS pd ty wr st ≤ st + 2 := by
  unfold naS
  have h1 := wS_rg wr st
  have h2 := wS_rg (naW1 pd ty wr st) (wS wr st)
  split <;> omega
theorem dW_rg {lo hi c : Int} (h : -6 ≤ wr ∧ wr ≤ n) (h2 : 0 ≤ st ∧ st ≤ n) : -6 ≤ dW lo hi c wr st ∧ dW lo hi c wr st ≤ n := wW_rg h h2
theorem naW_rg (h : -6 ≤ wr ∧ wr ≤ n) (h2 : 0 ≤ st ∧ st + 1 ≤ n) : -6 ≤ naW pd ty wr st ∧ naW pd ty wr st ≤ n := by
  have h1 := wS_rg wr st
  have h3 : -6 ≤ naW1 pd ty wr st ∧ naW1 pd ty wr st ≤ n := wW_rg h (by omega)
  unfold naW
  split
  · exact dW_rg h3 (by omega)
  · exact h3
theorem nN_rg : ∀ (k : Nat) (v st : Int), st ≤ (nN pd ty k v st).2 ∧ (nN pd ty k v st).2 ≤ st + k
  | 0, v, st => by
    show st ≤ st ∧ st ≤ st + ((0 : Nat) : Int)
    omega
  | k + 1, v, st => by
    by_cases h : 0 < v ∧ 0 ≤ Lt pd ty st - 48 ∧ Lt pd ty st - 48 ≤ 9 ∧ 10 * v + (Lt pd ty st - 48) ≤ 9999
    · rw [nN_step h]
      have := nN_rg k (10 * v + (Lt pd ty st - 48)) (st + 1)
      omega
    · rw [nN_stop h]
      dsimp only
      omega
theorem nR_rg : st ≤ (nR pd ty wr st).2 ∧ (nR pd ty wr st).2 ≤ st + 4 := by
  have h1 := wS_rg wr st
  unfold nR
  split
  · have := nN_rg (pd := pd) (ty := ty) 3 (Lt pd ty st - 48) (wS wr st)
    omega
  · dsimp only
    omega
theorem q_rg (hs : 0 ≤ st ∧ st ≤ 900) (hw : -6 ≤ wr ∧ wr ≤ 1000) : (st ≤ q1S wr st ∧ q1S wr st ≤ st + 1) ∧ (q1S wr st ≤ q2S pd ty wr st ∧ q2S pd ty wr st ≤ st + 2) ∧ (q2S pd ty wr st ≤ q3S pd ty wr st ∧ q3S pd ty wr st ≤ st + 4) ∧ (q3S pd ty wr st ≤ q4S pd ty wr st ∧ q4S pd ty wr st ≤ st + 5) ∧ (q4S pd ty wr st ≤ q5S pd ty wr st ∧ q5S pd ty wr st ≤ st + 9) ∧ (-6 ≤ q1W pd ty wr st ∧ q1W pd ty wr st ≤ 1000) ∧ (-6 ≤ q2W pd ty wr st ∧ q2W pd ty wr st ≤ 1000) ∧ (-6 ≤ q3W pd ty wr st ∧ q3W pd ty wr st ≤ 1000) ∧ (-6 ≤ q4W pd ty wr st ∧ q4W pd ty wr st ≤ 1000) ∧ (-6 ≤ q5W pd ty wr st ∧ q5W pd ty wr st ≤ 1000) := by
  have a1 : st ≤ q1S wr st ∧ q1S wr st ≤ st + 1 := wS_rg wr st
  have a2 : q1S wr st ≤ q2S pd ty wr st ∧ q2S pd ty wr st ≤ q1S wr st + 1 := wS_rg _ _
  have a3 : q2S pd ty wr st ≤ q3S pd ty wr st ∧ q3S pd ty wr st ≤ q2S pd ty wr st + 2 := naS_rg
  have a4 : q3S pd ty wr st ≤ q4S pd ty wr st ∧ q4S pd ty wr st ≤ q3S pd ty wr st + 1 := wS_rg _ _
  have a5 : q4S pd ty wr st ≤ q5S pd ty wr st ∧ q5S pd ty wr st ≤ q4S pd ty wr st + 4 := nR_rg
  have b1 : -6 ≤ q1W pd ty wr st ∧ q1W pd ty wr st ≤ 1000 := wW_rg hw (by omega)
  have b2 : -6 ≤ q2W pd ty wr st ∧ q2W pd ty wr st ≤ 1000 := dW_rg b1 (by omega)
  have b3 : -6 ≤ q3W pd ty wr st ∧ q3W pd ty wr st ≤ 1000 := naW_rg b2 (by omega)
  have b4 : -6 ≤ q4W pd ty wr st ∧ q4W pd ty wr st ≤ 1000 := wW_rg b3 (by omega)
  have b5 : -6 ≤ q5W pd ty wr st ∧ q5W pd ty wr st ≤ 1000 := dW_rg b4 (by omega)
  exact ⟨a1, by omega, by omega, by omega, by omega, b1, b2, b3, b4, b5⟩
theorem ro_rg (hs : 0 ≤ st ∧ st ≤ 900) (hw : -6 ≤ wr ∧ wr ≤ 1000) : (st ≤ roS pd ty wr st ∧ roS pd ty wr st ≤ st + 9) ∧ (-6 ≤ roW pd ty wr st ∧ roW pd ty wr st ≤ 1000) := by
  have h := q_rg (pd := pd) (ty := ty) hs hw
  unfold roS roW
  split
  · omega
  · split <;> omega
theorem roS_gt (hs : 0 ≤ st ∧ st ≤ 900) : st + 1 ≤ roS pd ty (-6) st := by
  have h := q_rg (pd := pd) (ty := ty) (wr := -6) hs (by omega)
  have h1 : q1S (-6) st = st + 1 := by unfold q1S wS; exact if_pos rfl
  unfold roS
  split
  · omega
  · split <;> omega
end
/-- the reading of the pad from a place where an order begins: the fault, the place, the orders -/
def rpN (pd : Int → Int) (ty : Int) : Nat → Int → Int → (Int → Int) → Int × Int × Int × (Int → Int)
  | 0, st, om, od => (-6, st, om, od)
  | k + 1, st, om, od => if roW pd ty (-6) st = -6 ∧ roS pd ty (-6) st < ty then (if Lt pd ty (roS pd ty (-6) st) = 59 then rpN pd ty k (roS pd ty (-6) st + 1) (om + 1) (roD pd ty (-6) st od om) else (roS pd ty (-6) st, roS pd ty (-6) st + 1, om + 1, roD pd ty (-6) st od om)) else (roW pd ty (-6) st, roS pd ty (-6) st, om + 1, roD pd ty (-6) st od om)
def rp (pd : Int → Int) (ty : Int) (od : Int → Int) : Int × Int × Int × (Int → Int) := rpN pd ty 81 0 0 od
theorem rpN_a {pd : Int → Int} {ty st om : Int} {od : Int → Int} (k : Nat) (h : ¬ (roW pd ty (-6) st = -6 ∧ roS pd ty (-6) st < ty)) : rpN pd ty (k + 1) st om od = (roW pd ty (-6) st, roS pd ty (-6) st, om + 1, roD pd ty (-6) st od om) := if_neg h
theorem rpN_b {pd : Int → Int} {ty st om : Int} {od : Int → Int} (k : Nat) (h : roW pd ty (-6) st = -6 ∧ roS pd ty (-6) st < ty) (h2 : ¬ Lt pd ty (roS pd ty (-6) st) = 59) : rpN pd ty (k + 1) st om od = (roS pd ty (-6) st, roS pd ty (-6) st + 1, om + 1, roD pd ty (-6) st od om) := by
  show (if _ then (if _ then _ else _) else _) = _
  rw [if_pos h, if_neg h2]
theorem rpN_c {pd : Int → Int} {ty st om : Int} {od : Int → Int} (k : Nat) (h : roW pd ty (-6) st = -6 ∧ roS pd ty (-6) st < ty) (h2 : Lt pd ty (roS pd ty (-6) st) = 59) : rpN pd ty (k + 1) st om od = rpN pd ty k (roS pd ty (-6) st + 1) (om + 1) (roD pd ty (-6) st od om) := by
  show (if _ then (if _ then _ else _) else _) = _
  rw [if_pos h, if_pos h2]
