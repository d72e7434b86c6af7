-- a group's methods as functions
def cpy8 (f g : Int → Int) : Int → Int := fun j => if 0 ≤ j ∧ j < 8 then f j else g j
theorem row_cpy8 (f g : Int → Int) : va_cpy (fun j : Nat => iI (f j)) (fun j : Nat => iI (g j)) (iI 0).toNatClampNeg (iI 0).toNatClampNeg (iI 8).toNatClampNeg = fun j : Nat => iI (cpy8 f g j) := by
  funext j
  have e0 : (iI 0).toNatClampNeg = 0 := by decide
  have e8 : (iI 8).toNatClampNeg = 8 := by decide
  rw [e0, e8]
  unfold va_cpy cpy8
  by_cases h : j < 8
  · rw [if_pos (by omega), if_pos (by omega)]
    simp
  · rw [if_neg (by omega), if_neg (by omega)]
def nO (x : Int) : Int := if x < 1 then 0 else (x - 1) % 99 + 1
abbrev thP (ne si : Int) (da : Int → Int) (x : Int) : Prop := ne - si + 1 ≤ x ∧ x ≤ ne ∧ ¬ da (x % 8) = -6
def nIT (ne si : Int) (da : Int → Int) (x : Int) : Int := if thP ne si da x then nO x else -6
def sOf (ne nj mj n b : Int) : Int := if n = 1 then (if b = 0 then 0 else mj) else (if b = 0 then ne else nj) + n
def nFJ (nj mj x : Int) : Int := if x = mj then 11 else if -7 ≤ x - nj ∧ x - nj ≤ 0 then x - nj + 10 else -6
def cLv (da : Int → Int) (ne most : Int) : Nat → Int → Int → Int × Int
  | 0, si, ro => (si, ro)
  | n + 1, si, ro => if 0 < si ∧ (most < si ∨ da ((ne - si + 1) % 8) = -6) then cLv da ne most n (si - 1) (ro + (if da ((ne - si + 1) % 8) = -6 then 0 else 1)) else (si, ro)
theorem cLv_stop {da : Int → Int} {ne most si ro : Int} (h : ¬ (0 < si ∧ (most < si ∨ da ((ne - si + 1) % 8) = -6))) : ∀ n : Nat, cLv da ne most n si ro = (si, ro)
  | 0 => rfl
  | _ + 1 => if_neg h
theorem cLv_step {da : Int → Int} {ne most si ro : Int} (h : 0 < si ∧ (most < si ∨ da ((ne - si + 1) % 8) = -6)) : cLv da ne most si.toNat si ro = cLv da ne most (si - 1).toNat (si - 1) (ro + (if da ((ne - si + 1) % 8) = -6 then 0 else 1)) := by
  have e : si.toNat = (si - 1).toNat + 1 := by omega
  rw [e]
  exact if_pos h
def cL (da : Int → Int) (ne most si ro : Int) : Int × Int := cLv da ne most si.toNat si ro
theorem cLv_rg {da : Int → Int} {ne most : Int} : ∀ (n : Nat) (si ro : Int), 0 ≤ si → 0 ≤ (cLv da ne most n si ro).1 ∧ (cLv da ne most n si ro).1 ≤ si ∧ ro ≤ (cLv da ne most n si ro).2 ∧ (cLv da ne most n si ro).2 ≤ ro + n
  | 0, si, ro, h => by
    show 0 ≤ si ∧ si ≤ si ∧ ro ≤ ro ∧ ro ≤ ro + ((0 : Nat) : Int)
    omega
  | n + 1, si, ro, h => by
    by_cases c : 0 < si ∧ (most < si ∨ da ((ne - si + 1) % 8) = -6)
    · show 0 ≤ (if _ then _ else _ : Int × Int).1 ∧ (if _ then _ else _ : Int × Int).1 ≤ si ∧ ro ≤ (if _ then _ else _ : Int × Int).2 ∧ (if _ then _ else _ : Int × Int).2 ≤ ro + ((n + 1 : Nat) : Int)
      rw [if_pos c]
      have := cLv_rg (da := da) (ne := ne) (most := most) n (si - 1) (ro + (if da ((ne - si + 1) % 8) = -6 then 0 else 1)) (by omega)
      have hb : (0 : Int) ≤ (if da ((ne - si + 1) % 8) = -6 then 0 else 1) ∧ (if da ((ne - si + 1) % 8) = -6 then (0 : Int) else 1) ≤ 1 := by split <;> omega
      omega
    · rw [cLv_stop c]
      dsimp only
      omega
theorem cL_rg {da : Int → Int} {ne most si ro : Int} (h : 0 ≤ si) : 0 ≤ (cL da ne most si ro).1 ∧ (cL da ne most si ro).1 ≤ si := by
  have := cLv_rg (da := da) (ne := ne) (most := most) si.toNat si ro h
  exact ⟨this.1, this.2.1⟩
def cHo (ne si : Int) (da : Int → Int) : Int := itr (fun k n => n + (if da ((ne - k) % 8) = -6 then 1 else 0)) 0 si.toNat
def cSu (ne si : Int) (da : Int → Int) : Int := itr (fun k n => if da ((ne - k) % 8) = -6 then n else n + da ((ne - k) % 8)) 0 si.toNat
def wGG (E : zE) (q q2 : Nat → Nat) (ke ne si ro de nj mj : Int) (da re jo : Int → Int) (ke2 ne2 si2 ro2 de2 nj2 mj2 : Int) (da2 re2 jo2 : Int → Int) : va_W := wG E q ke ne si ro de nj mj da re jo ++ wG E q2 ke2 ne2 si2 ro2 de2 nj2 mj2 da2 re2 jo2
abbrev DGr (da : Int → Int) : Prop := ∀ j : Int, 0 ≤ j → j < 8 → rg (da j)
theorem DGr_iU {da : Int → Int} {k v : Int} (h : DGr da) (hv : rg v) : DGr (iU da k v) := fun j a b => by
  unfold iU
  split
  · exact hv
  · exact h j a b
