theorem zb_congr {P Q : Prop} [Decidable P] [Decidable Q] (h : P ↔ Q) : zb P = zb Q := by
  by_cases p : P
  · rw [zb_t p, zb_t (h.mp p)]
  · rw [zb_f p, zb_f (fun q => p (h.mpr q))]
-- the model's reading of the pad
def Lt (pd : Int → Int) (ty st : Int) : Int := if st < ty then pd st else -6
def wS (wr st : Int) : Int := if wr = -6 then st + 1 else st
def wW (b wr st : Int) : Int := if wr = -6 ∧ b = 0 then st else wr
abbrev PD (pd : Int → Int) (ty : Int) : Prop := ∀ j : Int, 0 ≤ j → j < ty → 0 ≤ pd j ∧ pd j ≤ 127
theorem Lt_rg {pd : Int → Int} {ty st : Int} (h : PD pd ty) (h0 : 0 ≤ st) : -6 ≤ Lt pd ty st ∧ Lt pd ty st ≤ 127 := by
  unfold Lt
  split
  · have := h st h0 (by omega)
    omega
  · omega
theorem wS_rg (wr st : Int) : st ≤ wS wr st ∧ wS wr st ≤ st + 1 := by
  unfold wS
  split <;> omega
theorem wW_rg {b wr st n : Int} (h : -6 ≤ wr ∧ wr ≤ n) (h2 : 0 ≤ st ∧ st ≤ n) : -6 ≤ wW b wr st ∧ wW b wr st ≤ n := by
  unfold wW
  split <;> omega
def dW (lo hi c wr st : Int) : Int := wW (zb (lo ≤ c - 48 ∧ c - 48 ≤ hi)) wr st
def nN (pd : Int → Int) (ty : Int) : Nat → Int → Int → Int × Int
  | 0, v, st => (v, st)
  | k + 1, v, st => if 0 < v ∧ 0 ≤ Lt pd ty st - 48 ∧ Lt pd ty st - 48 ≤ 9 ∧ 10 * v + (Lt pd ty st - 48) ≤ 9999 then nN pd ty k (10 * v + (Lt pd ty st - 48)) (st + 1) else (v, st)
theorem nN_stop {pd : Int → Int} {ty v st : Int} (h : ¬ (0 < v ∧ 0 ≤ Lt pd ty st - 48 ∧ Lt pd ty st - 48 ≤ 9 ∧ 10 * v + (Lt pd ty st - 48) ≤ 9999)) : ∀ k : Nat, nN pd ty k v st = (v, st)
  | 0 => rfl
  | _ + 1 => if_neg h
theorem nN_step {pd : Int → Int} {ty v st : Int} (h : 0 < v ∧ 0 ≤ Lt pd ty st - 48 ∧ Lt pd ty st - 48 ≤ 9 ∧ 10 * v + (Lt pd ty st - 48) ≤ 9999) (k : Nat) : nN pd ty (k + 1) v st = nN pd ty k (10 * v + (Lt pd ty st - 48)) (st + 1) := if_pos h
/-- the number behind a first digit -/
def nR (pd : Int → Int) (ty wr st : Int) : Int × Int := if dW 0 9 (Lt pd ty st) wr st = -6 then nN pd ty 3 (Lt pd ty st - 48) (wS wr st) else (Lt pd ty st - 48, wS wr st)
def naV (pd : Int → Int) (ty wr st : Int) : Int := if Lt pd ty st = 43 then 1 else if Lt pd ty st = 45 then -(Lt pd ty (wS wr st) - 48) else 0
def naW1 (pd : Int → Int) (ty wr st : Int) : Int := wW (zb (Lt pd ty st = 48 ∨ Lt pd ty st = 45 ∨ Lt pd ty st = 43)) wr st
def naS (pd : Int → Int) (ty wr st : Int) : Int := if Lt pd ty st = 45 then wS (naW1 pd ty wr st) (wS wr st) else wS wr st
def naW (pd : Int → Int) (ty wr st : Int) : Int := if Lt pd ty st = 45 then dW 1 7 (Lt pd ty (wS wr st)) (naW1 pd ty wr st) (wS wr st) else naW1 pd ty wr st
