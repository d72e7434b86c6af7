theorem cHo_rg {ne si : Int} {da : Int → Int} (h : 0 ≤ si) : 0 ≤ cHo ne si da ∧ cHo ne si da ≤ si := by
  have key : ∀ n : Nat, 0 ≤ itr (fun k (n : Int) => n + (if da ((ne - k) % 8) = -6 then 1 else 0)) 0 n ∧ itr (fun k (n : Int) => n + (if da ((ne - k) % 8) = -6 then 1 else 0)) 0 n ≤ n := by
    intro n
    induction n with
    | zero => exact ⟨Int.le_refl 0, Int.le_refl 0⟩
    | succ n ih =>
      show 0 ≤ itr (fun k (n : Int) => n + (if da ((ne - k) % 8) = -6 then 1 else 0)) 0 n + (if da ((ne - n) % 8) = -6 then 1 else 0) ∧ itr (fun k (n : Int) => n + (if da ((ne - k) % 8) = -6 then 1 else 0)) 0 n + (if da ((ne - n) % 8) = -6 then 1 else 0) ≤ ((n + 1 : Nat) : Int)
      split <;> omega
  have := key si.toNat
  unfold cHo
  omega
section
variable {X : zGr}
theorem XI_xHo {sr : Int} (h : XI X) : XI (xHo X sr) := by
  obtain ⟨h1, h2, h3, h4, h5, h6⟩ := h
  have hc := cL_rg (da := iU (X 1) (sr % 8) (-6)) (ne := X 0 1) (most := X 0 0) (si := X 0 2) (ro := X 0 3) h2.1
  refine ⟨h1, ?_, DGr_iU h3 ⟨by omega, by omega⟩, h4, h5, h6⟩
  show 0 ≤ (cL (iU (X 1) (sr % 8) (-6)) (X 0 1) (X 0 0) (X 0 2) (X 0 3)).1 ∧ (cL (iU (X 1) (sr % 8) (-6)) (X 0 1) (X 0 0) (X 0 2) (X 0 3)).1 ≤ 8 ∧ (cL (iU (X 1) (sr % 8) (-6)) (X 0 1) (X 0 0) (X 0 2) (X 0 3)).1 ≤ X 0 1
  omega
end
theorem SI_gU {G : Int → zGr} {g : Int} {X : zGr} (h : SI G) (hX : XI X) : SI (gU G g X) := by
  intro i a b
  by_cases e : i = g
  · subst e; rw [gU_same]; exact hX
  · rw [gU_ne e]; exact h i a b
def sCH (G : Int → zGr) : Int := itr (fun g n => n + cHo (G g 0 1) (G g 0 2) (G g 1)) 0 6
def sCT (G : Int → zGr) : Int := itr (fun g n => n + (G g 0 2 - cHo (G g 0 1) (G g 0 2) (G g 1))) 0 6
def sMd (jr : Int) (G : Int → zGr) : Int := itr (fun g n => if ¬ jr = 0 ∧ thP (G g 0 1) (G g 0 2) (G g 1) (G g 0 6) then n + 1 else n) 0 6
def sSt (G : Int → zGr) : Int → zGr := itr (fun g Y => gU Y g (xM0 (Y g))) G 6
def sNJ (G : Int → zGr) : Int → zGr := itr (fun g Y => gU Y g (xNJ (Y g))) G 6
def sFl (b : Int) (G : Int → zGr) : Int → zGr := itr (fun g Y => if b = 1 ∧ thP (Y g 0 1) (Y g 0 2) (Y g 1) (Y g 0 6) then gU Y g (xHo (Y g) (Y g 0 6)) else Y) G 6
abbrev soP (jr k ne si nj mj : Int) (da : Int → Int) : Prop := (k = 0 ∧ 0 < cHo ne si da) ∨ (k = 1 ∧ ((¬ jr = 0 ∧ ¬ mj = 0) ∧ 0 < si)) ∨ (¬ k = 0 ∧ ¬ k = 1 ∧ ¬ thP ne si da (sOf ne nj mj 0 jr))
def sSet (jr : Int) (G : Int → zGr) (k : Int) : Int := itr (fun g n => n + (if soP jr k (G g 0 1) (G g 0 2) (G g 0 5) (G g 0 6) (G g 1) then 2 ^ g.toNat else 0)) 0 6
