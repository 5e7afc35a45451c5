/-! which cell lies beside which: both sides come to one table, over the finite shapes by decision -/
/-- beside: of a puzzle of r rows and c columns, cell p, side s; none: the rim -/
def bs (r c p s : Nat) : Option Nat := match s with
  | 0 => if c ≤ p then some (p - c) else none
  | 1 => if p % c + 1 < c then some (p + 1) else none
  | 2 => if p + c < r * c then some (p + c) else none
  | _ => if 0 < p % c then some (p - 1) else none
def bsI (o : Option Nat) : Int32 := match o with
  | some q => nI q
  | none => -1
def gbM (rr cc x s : Int32) : Option Int32 := if s = 0 then (if x < cc then some (-1) else some (x - cc)) else (if s = 1 then (if cc = 0 then none else (if cc ≤ ((x - x / cc * cc) + 1) then some (-1) else some (x + 1))) else (if s = 2 then (if rr * cc ≤ x + cc then some (-1) else some (x + cc)) else (if cc = 0 then none else (if (x - x / cc * cc) ≤ 0 then some (-1) else some (x - 1)))))
theorem beside_eq (k : Nat) (x s : Int32) (τ : Sg) : f_X11_beside k x s τ = (gbM (τ k 11) (τ k 12) x s).map (fun r => (r, τ)) := by
  unfold f_X11_beside gbM f_X11_cells p_nz
  simp only [p_call]
  repeat' split
  all_goals first | rfl | (exfalso; contradiction) | simp_all
theorem all_r {n : Nat} {P : Nat → Bool} (h : (List.range n).all P = true) {i : Nat} (hi : i < n) : P i = true := List.all_eq_true.mp h i (List.mem_range.mpr hi)
/-- a fact of all shapes, cells and sides, by running through them -/
def allG (P : Nat → Nat → Nat → Nat → Bool) : Bool := (List.range 5).all fun r => (List.range 5).all fun c => (!(decide (2 ≤ r) && decide (2 ≤ c))) || (List.range (r * c)).all fun p => (List.range 4).all fun s => P r c p s
theorem allG_at {P : Nat → Nat → Nat → Nat → Bool} (h : allG P = true) {r c p s : Nat} (h1 : 2 ≤ r ∧ r < 5) (h2 : 2 ≤ c ∧ c < 5) (hp : p < r * c) (hs : s < 4) : P r c p s = true := by
  have a := all_r (all_r h h1.2) h2.2
  rw [decide_eq_true h1.1, decide_eq_true h2.1] at a
  simp only [Bool.and_self, Bool.not_true, Bool.false_or] at a
  exact all_r (all_r a hp) hs
theorem gbM_tab : allG (fun r c p s => decide (gbM (nI r) (nI c) (nI p) (nI s) = some (bsI (bs r c p s)))) = true := by decide +kernel
theorem bs_tab : allG (fun r c p s => match bs r c p s with
  | some q => decide (q < r * c)
  | none => true) = true := by decide +kernel
theorem bs_lt {r c p s q : Nat} (h1 : 2 ≤ r ∧ r < 5) (h2 : 2 ≤ c ∧ c < 5) (hp : p < r * c) (hs : s < 4) (h : bs r c p s = some q) : q < r * c := by
  have := allG_at bs_tab h1 h2 hp hs
  rw [h] at this
  exact of_decide_eq_true this
theorem e_beside {τ : Sg} {k r c p s : Nat} (hr : τ k 11 = nI r) (hc : τ k 12 = nI c) (h1 : 2 ≤ r ∧ r < 5) (h2 : 2 ≤ c ∧ c < 5) (hp : p < r * c) (hs : s < 4) : Ev (f_X11_beside k (nI p) (nI s) τ) (fun x υ => x = bsI (bs r c p s) ∧ υ = τ) := by
  rw [beside_eq, hr, hc, of_decide_eq_true (allG_at gbM_tab h1 h2 hp hs)]
  exact Ev.ret ⟨rfl, rfl⟩
-- the class's own: neighbourAcross, out of its rows and columns
def gbX (rr cc x s : Int32) : Option Int32 := if cc = 0 then none else (if s = 0 then (if (x / cc) ≤ 0 then some (-1) else some (x - cc)) else (if s = 1 then (if (cc - 1) ≤ (x - x / cc * cc) then some (-1) else some (x + 1)) else (if s = 2 then (if (rr - 1) ≤ (x / cc) then some (-1) else some (x + cc)) else (if (x - x / cc * cc) ≤ 0 then some (-1) else some (x - 1)))))
theorem across_eq (k : Nat) (x s : Int32) (σ : Sg) : f_X1_neighbourAcross k x s σ = (gbX (σ k 0) (σ k 1) x s).map (fun r => (r, σ)) := by
  unfold f_X1_neighbourAcross gbX p_nz
  repeat' split
  all_goals first | rfl | (exfalso; contradiction) | simp_all
theorem gbX_tab : allG (fun r c p s => decide (gbX (nI r) (nI c) (nI p) (nI s) = some (bsI (bs r c p s)))) = true := by decide +kernel
theorem e_across {σ : Sg} {k r c p s : Nat} (hr : σ k 0 = nI r) (hc : σ k 1 = nI c) (h1 : 2 ≤ r ∧ r < 5) (h2 : 2 ≤ c ∧ c < 5) (hp : p < r * c) (hs : s < 4) : Ev (f_X1_neighbourAcross k (nI p) (nI s) σ) (fun x υ => x = bsI (bs r c p s) ∧ υ = σ) := by
  rw [across_eq, hr, hc, of_decide_eq_true (allG_at gbX_tab h1 h2 hp hs)]
  exact Ev.ret ⟨rfl, rfl⟩
