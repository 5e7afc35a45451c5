/-! MY LAYER OVER THE KIT. A state of all cells is one function σ: cell number, place -> int. A method is a pure function over σ (Option: none where an index, a divisor or the fuel falls short); a contract says that the machine does what the function says. -/
abbrev Sg : Type := Nat → Nat → Int32
abbrev Rs : Type := Option (Int32 × Sg)
def sg_up (σ : Sg) (k i : Nat) (v : Int32) : Sg := fun a b => if a = k ∧ b = i then v else σ a b
def ix (i : Int32) (n : Nat) : Bool := decide (0 ≤ i) && decide (i.toNatClampNeg < n)
def p_rd (σ : Sg) (k n : Nat) (i : Int32) (K : Int32 → Rs) : Rs := if ix i n = true then K (σ k i.toNatClampNeg) else none
def p_wr (σ : Sg) (k n : Nat) (i v : Int32) (K : Sg → Rs) : Rs := if ix i n = true then K (sg_up σ k i.toNatClampNeg v) else none
def p_nz (y : Int32) (K : Rs) : Rs := if y = 0 then none else K
def p_bo (y : Int32) (K : Rs) : Rs := if y = 0 ∨ y = 1 then K else none
def p_call (f : Rs) (K : Int32 → Sg → Rs) : Rs := match f with
  | none => none
  | some (r, s) => K r s
theorem ix_in {i : Int32} {n : Nat} (h : ix i n = true) : vp_in i n := by
  unfold ix at h
  simp only [Bool.and_eq_true, decide_eq_true_eq] at h
  intro q
  rcases q with q | q
  · exact absurd q (Int32.not_lt.mpr h.1)
  · omega
theorem p_rd_of {σ : Sg} {k n : Nat} {i : Int32} {K : Int32 → Rs} {o : Int32 × Sg} (h : p_rd σ k n i K = some o) : vp_in i n ∧ K (σ k i.toNatClampNeg) = some o := by
  unfold p_rd at h
  split at h
  · next h1 => exact ⟨ix_in h1, h⟩
  · cases h
theorem p_wr_of {σ : Sg} {k n : Nat} {i v : Int32} {K : Sg → Rs} {o : Int32 × Sg} (h : p_wr σ k n i v K = some o) : vp_in i n ∧ K (sg_up σ k i.toNatClampNeg v) = some o := by
  unfold p_wr at h
  split at h
  · next h1 => exact ⟨ix_in h1, h⟩
  · cases h
theorem p_nz_of {y : Int32} {K : Rs} {o : Int32 × Sg} (h : p_nz y K = some o) : ¬ y = 0 ∧ K = some o := by
  unfold p_nz at h
  split at h
  · cases h
  · next h1 => exact ⟨h1, h⟩
theorem p_bo_of {y : Int32} {K : Rs} {o : Int32 × Sg} (h : p_bo y K = some o) : narrow .boolean (.int y) = .int y ∧ fits .boolean (.int y) = true ∧ K = some o := by
  unfold p_bo at h
  split at h
  · next h1 => rcases h1 with rfl | rfl <;> exact ⟨by decide, by decide, h⟩
  · cases h
theorem p_call_of {f : Rs} {K : Int32 → Sg → Rs} {o : Int32 × Sg} (h : p_call f K = some o) : ∃ r s, f = some (r, s) ∧ K r s = some o := by
  unfold p_call at h
  cases hf : f with
  | none => rw [hf] at h; cases h
  | some x => obtain ⟨r, s⟩ := x; rw [hf] at h; exact ⟨r, s, rfl, h⟩
theorem p_ite {c : Prop} [Decidable c] {A B : Rs} {o : Int32 × Sg} (h : (if c then A else B) = some o) : (c → A = some o) ∧ (¬ c → B = some o) := ⟨fun q => by rw [if_pos q] at h; exact h, fun q => by rw [if_neg q] at h; exact h⟩
theorem p_iteN {c : Prop} [Decidable c] {A B : Rs} {o : Int32 × Sg} (h : (if c then A else B) = some o) : (¬ c → B = some o) ∧ (c → A = some o) := ⟨(p_ite h).2, (p_ite h).1⟩
-- the fields of a class: none an int, some d the cell that lies d behind the object
def fl_vs (ad : Nat → Nat) (σ : Sg) (k : Nat) : List (Option Nat) → Nat → List Value
  | [], _ => []
  | some d :: r, j => .ref (ad (k + d)) :: fl_vs ad σ k r (j + 1)
  | none :: r, j => .int (σ k j) :: fl_vs ad σ k r (j + 1)
theorem fl_len (ad : Nat → Nat) (σ : Sg) (k : Nat) : ∀ (fs : List (Option Nat)) (j : Nat), (fl_vs ad σ k fs j).length = fs.length
  | [], _ => rfl
  | some d :: r, j => by simp [fl_vs, fl_len ad σ k r]
  | none :: r, j => by simp [fl_vs, fl_len ad σ k r]
theorem fl_ref (ad : Nat → Nat) (σ : Sg) (k d : Nat) : ∀ (fs : List (Option Nat)) (j i : Nat), fs[i]? = some (some d) → (fl_vs ad σ k fs j)[i]? = some (.ref (ad (k + d)))
  | [], _, i, h => by simp at h
  | x :: r, j, 0, h => by
    simp only [List.getElem?_cons_zero, Option.some.injEq] at h
    subst h
    rfl
  | x :: r, j, i + 1, h => by
    rw [List.getElem?_cons_succ] at h
    cases x <;> (simp only [fl_vs, List.getElem?_cons_succ]; exact fl_ref ad σ k d r (j + 1) i h)
theorem fl_int (ad : Nat → Nat) (σ : Sg) (k : Nat) : ∀ (fs : List (Option Nat)) (j i : Nat), fs[i]? = some none → (fl_vs ad σ k fs j)[i]? = some (.int (σ k (j + i)))
  | [], _, i, h => by simp at h
  | x :: r, j, 0, h => by
    simp only [List.getElem?_cons_zero, Option.some.injEq] at h
    subst h
    rfl
  | x :: r, j, i + 1, h => by
    rw [List.getElem?_cons_succ] at h
    have := fl_int ad σ k r (j + 1) i h
    rw [show j + 1 + i = j + (i + 1) by omega] at this
    cases x <;> (simp only [fl_vs, List.getElem?_cons_succ]; exact this)
theorem fl_off (ad : Nat → Nat) (σ : Sg) (k i : Nat) (v : Int32) : ∀ (fs : List (Option Nat)) (j : Nat), i < j → fl_vs ad (sg_up σ k i v) k fs j = fl_vs ad σ k fs j
  | [], _, _ => rfl
  | some d :: r, j, h => by simp only [fl_vs]; rw [fl_off ad σ k i v r (j + 1) (by omega)]
  | none :: r, j, h => by
    simp only [fl_vs]
    rw [fl_off ad σ k i v r (j + 1) (by omega)]
    simp [sg_up, show ¬ j = i by omega]
theorem fl_set (ad : Nat → Nat) (σ : Sg) (k : Nat) (v : Int32) : ∀ (fs : List (Option Nat)) (j i : Nat), fs[i]? = some none → (fl_vs ad σ k fs j).set i (.int v) = fl_vs ad (sg_up σ k (j + i) v) k fs j
  | [], _, i, h => by simp at h
  | x :: r, j, 0, h => by
    simp only [List.getElem?_cons_zero, Option.some.injEq] at h
    subst h
    simp only [fl_vs, List.set_cons_zero]
    rw [fl_off ad σ k (j + 0) v r (j + 1) (by omega)]
    simp [sg_up]
  | x :: r, j, i + 1, h => by
    rw [List.getElem?_cons_succ] at h
    have := fl_set ad σ k v r (j + 1) i h
    rw [show j + 1 + i = j + (i + 1) by omega] at this
    cases x with
    | some d => simp only [fl_vs, List.set_cons_succ]; rw [this]
    | none =>
      simp only [fl_vs, List.set_cons_succ]
      rw [this]
      simp [sg_up, show ¬ j = j + (i + 1) by omega]
