/-! the class's Board: closed forms -/
/-- something lies in the cell q -/
def fl (pc : Nat → Int32) (q : Nat) : Bool := !decide (pc q = -1)
/-- the piece p is laid or lost -/
def aw (ip lo : Nat → Int32) (p : Nat) : Bool := !decide (ip p = 0) || !decide (lo p = 0)
/-- the cell q has its own piece in turn 0 -/
def own (pc tn : Nat → Int32) (q : Nat) : Bool := decide (pc q = nI q) && decide (tn q = 0)
theorem x_isFilled {σ : Sg} {k q : Nat} (hq : q < 16) : f_X0_isFilled k (nI q) σ = some (b2 (fl (σ (k + 1)) q), σ) := by
  unfold f_X0_isFilled fl
  simp (disch := omega) only [rdN, wrN, rdZ, wrZ, p_put_eq, call_some, nzN, boN, nI_1, nI_add, pk_mul, lit_4, lit_16, le_T, le_F, lt_T, lt_F, eq_T, eq_F, le_T0, le_F0, lt_F0, lt_T0, eq_T0, eq_F0, eqm_F, up_s2, up_n2, Ev_some, nz_0, nz_1, if_true, if_false, reduceIte, and_true, true_and, and_false, false_and, b2_0, b2_1, Bool.true_eq_false, Bool.false_eq_true, not_true_eq_false, not_false_eq_true]
  by_cases h : σ (k + 1) q = -1 <;> simp [h, b2]
theorem x_isAway {σ : Sg} {k p : Nat} (hp : p < 16) : f_X0_isAway k (nI p) σ = some (b2 (aw (σ (k + 4)) (σ (k + 5)) p), σ) := by
  unfold f_X0_isAway f_X0_isAway_b18 aw
  simp (disch := omega) only [rdN, wrN, rdZ, wrZ, p_put_eq, call_some, nzN, boN, nI_1, nI_add, pk_mul, lit_4, lit_16, le_T, le_F, lt_T, lt_F, eq_T, eq_F, le_T0, le_F0, lt_F0, lt_T0, eq_T0, eq_F0, eqm_F, up_s2, up_n2, Ev_some, nz_0, nz_1, if_true, if_false, reduceIte, and_true, true_and, and_false, false_and, b2_0, b2_1, Bool.true_eq_false, Bool.false_eq_true, not_true_eq_false, not_false_eq_true]
  by_cases h : σ (k + 4) p = 0 <;> by_cases h2 : σ (k + 5) p = 0 <;> simp [h, h2, b2]
theorem x_isRight {σ : Sg} {k q : Nat} (hq : q < 16) : f_X0_isRight k (nI q) σ = some (b2 (own (σ (k + 1)) (σ (k + 2)) q), σ) := by
  unfold f_X0_isRight own
  simp (disch := omega) only [rdN, wrN, rdZ, wrZ, p_put_eq, call_some, nzN, boN, nI_1, nI_add, pk_mul, lit_4, lit_16, le_T, le_F, lt_T, lt_F, eq_T, eq_F, le_T0, le_F0, lt_F0, lt_T0, eq_T0, eq_F0, eqm_F, up_s2, up_n2, Ev_some, nz_0, nz_1, if_true, if_false, reduceIte, and_true, true_and, and_false, false_and, b2_0, b2_1, Bool.true_eq_false, Bool.false_eq_true, not_true_eq_false, not_false_eq_true]
  by_cases h : σ (k + 1) q = nI q <;> by_cases h2 : σ (k + 2) q = 0 <;> simp [h, h2, b2]
theorem x_put {σ : Sg} {k q p : Nat} {x y : Int32} (hq : q < 16) (hp : p < 16) : f_X0_put k (nI q) (nI p) x y σ = some (0, sg_up (sg_up (sg_up (sg_up σ (k + 1) q (nI p)) (k + 2) q x) (k + 3) q y) (k + 4) p 1) := by
  unfold f_X0_put
  simp (disch := omega) only [rdN, wrN, rdZ, wrZ, p_put_eq, call_some, nzN, boN, nI_1, nI_add, pk_mul, lit_4, lit_16, le_T, le_F, lt_T, lt_F, eq_T, eq_F, le_T0, le_F0, lt_F0, lt_T0, eq_T0, eq_F0, eqm_F, up_s2, up_n2, Ev_some, nz_0, nz_1, if_true, if_false, reduceIte, and_true, true_and, and_false, false_and, b2_0, b2_1, Bool.true_eq_false, Bool.false_eq_true, not_true_eq_false, not_false_eq_true]
theorem x_takeUp {σ : Sg} {k q p : Nat} (hq : q < 16) (hp : p < 16) (h : σ (k + 1) q = nI p) : f_X0_takeUp k (nI q) σ = some (nI p, sg_up (sg_up σ (k + 4) p 0) (k + 1) q (-1)) := by
  unfold f_X0_takeUp
  simp (disch := omega) only [rdN, wrN, rdZ, wrZ, p_put_eq, call_some, nzN, boN, nI_1, nI_add, pk_mul, lit_4, lit_16, le_T, le_F, lt_T, lt_F, eq_T, eq_F, le_T0, le_F0, lt_F0, lt_T0, eq_T0, eq_F0, eqm_F, up_s2, up_n2, Ev_some, nz_0, nz_1, if_true, if_false, reduceIte, and_true, true_and, and_false, false_and, b2_0, b2_1, Bool.true_eq_false, Bool.false_eq_true, not_true_eq_false, not_false_eq_true, h]
theorem x_howManyFilled {σ : Sg} {k : Nat} : f_X0_howManyFilled k σ = some (sm (fun q => b2 (fl (σ (k + 1)) q)) 0 16, σ) := by
  have h := lp_sm (L := fun n i a => f_X0_howManyFilled_b4 k n a (nI i) σ) (m := 16) (g := fun q => b2 (fl (σ (k + 1)) q)) (E := fun a => some (a, σ)) (fun n a => by
    show f_X0_howManyFilled_b4 k (n + 1) a (nI 16) σ = _
    simp (disch := omega) only [rdN, wrN, rdZ, wrZ, p_put_eq, call_some, nzN, boN, nI_1, nI_add, pk_mul, lit_4, lit_16, le_T, le_F, lt_T, lt_F, eq_T, eq_F, le_T0, le_F0, lt_F0, lt_T0, eq_T0, eq_F0, eqm_F, up_s2, up_n2, Ev_some, nz_0, nz_1, if_true, if_false, reduceIte, and_true, true_and, and_false, false_and, b2_0, b2_1, Bool.true_eq_false, Bool.false_eq_true, not_true_eq_false, not_false_eq_true, f_X0_howManyFilled_b4]) (fun n i a hi => by
    show f_X0_howManyFilled_b4 k (n + 1) a (nI i) σ = f_X0_howManyFilled_b4 k n (a + _) (nI (i + 1)) σ
    simp (disch := omega) only [rdN, wrN, rdZ, wrZ, p_put_eq, call_some, nzN, boN, nI_1, nI_add, pk_mul, lit_4, lit_16, le_T, le_F, lt_T, lt_F, eq_T, eq_F, le_T0, le_F0, lt_F0, lt_T0, eq_T0, eq_F0, eqm_F, up_s2, up_n2, Ev_some, nz_0, nz_1, if_true, if_false, reduceIte, and_true, true_and, and_false, false_and, b2_0, b2_1, Bool.true_eq_false, Bool.false_eq_true, not_true_eq_false, not_false_eq_true, f_X0_howManyFilled_b4, x_isFilled, f_X0_howManyFilled_b21, b2_0]
    cases fl (σ (k + 1)) i <;> simp [b2]) fu 0 0 (by decide) (fu_lt (by decide))
  rw [Int32.zero_add] at h
  exact h
theorem x_howManyLost {σ : Sg} {k : Nat} : f_X0_howManyLost k σ = some (sm (fun q => b2 (!decide (σ (k + 5) q = 0))) 0 16, σ) := by
  have h := lp_sm (L := fun n i a => f_X0_howManyLost_b4 k n a (nI i) σ) (m := 16) (g := fun q => b2 (!decide (σ (k + 5) q = 0))) (E := fun a => some (a, σ)) (fun n a => by
    show f_X0_howManyLost_b4 k (n + 1) a (nI 16) σ = _
    simp (disch := omega) only [rdN, wrN, rdZ, wrZ, p_put_eq, call_some, nzN, boN, nI_1, nI_add, pk_mul, lit_4, lit_16, le_T, le_F, lt_T, lt_F, eq_T, eq_F, le_T0, le_F0, lt_F0, lt_T0, eq_T0, eq_F0, eqm_F, up_s2, up_n2, Ev_some, nz_0, nz_1, if_true, if_false, reduceIte, and_true, true_and, and_false, false_and, b2_0, b2_1, Bool.true_eq_false, Bool.false_eq_true, not_true_eq_false, not_false_eq_true, f_X0_howManyLost_b4]) (fun n i a hi => by
    show f_X0_howManyLost_b4 k (n + 1) a (nI i) σ = f_X0_howManyLost_b4 k n (a + _) (nI (i + 1)) σ
    simp (disch := omega) only [rdN, wrN, rdZ, wrZ, p_put_eq, call_some, nzN, boN, nI_1, nI_add, pk_mul, lit_4, lit_16, le_T, le_F, lt_T, lt_F, eq_T, eq_F, le_T0, le_F0, lt_F0, lt_T0, eq_T0, eq_F0, eqm_F, up_s2, up_n2, Ev_some, nz_0, nz_1, if_true, if_false, reduceIte, and_true, true_and, and_false, false_and, b2_0, b2_1, Bool.true_eq_false, Bool.false_eq_true, not_true_eq_false, not_false_eq_true, f_X0_howManyLost_b4, f_X0_howManyLost_b22]
    by_cases h : σ (k + 5) i = 0 <;> simp [h, b2]) fu 0 0 (by decide) (fu_lt (by decide))
  rw [Int32.zero_add] at h
  exact h
theorem x_laidBy {σ : Sg} {k : Nat} {w : Int32} : f_X0_laidBy k w σ = some (sm (fun q => b2 (fl (σ (k + 1)) q && decide (σ (k + 3) q = w))) 0 16, σ) := by
  have h := lp_sm (L := fun n i a => f_X0_laidBy_b4 k n w a (nI i) σ) (m := 16) (g := fun q => b2 (fl (σ (k + 1)) q && decide (σ (k + 3) q = w))) (E := fun a => some (a, σ)) (fun n a => by
    show f_X0_laidBy_b4 k (n + 1) w a (nI 16) σ = _
    simp (disch := omega) only [rdN, wrN, rdZ, wrZ, p_put_eq, call_some, nzN, boN, nI_1, nI_add, pk_mul, lit_4, lit_16, le_T, le_F, lt_T, lt_F, eq_T, eq_F, le_T0, le_F0, lt_F0, lt_T0, eq_T0, eq_F0, eqm_F, up_s2, up_n2, Ev_some, nz_0, nz_1, if_true, if_false, reduceIte, and_true, true_and, and_false, false_and, b2_0, b2_1, Bool.true_eq_false, Bool.false_eq_true, not_true_eq_false, not_false_eq_true, f_X0_laidBy_b4]) (fun n i a hi => by
    show f_X0_laidBy_b4 k (n + 1) w a (nI i) σ = f_X0_laidBy_b4 k n w (a + _) (nI (i + 1)) σ
    simp (disch := omega) only [rdN, wrN, rdZ, wrZ, p_put_eq, call_some, nzN, boN, nI_1, nI_add, pk_mul, lit_4, lit_16, le_T, le_F, lt_T, lt_F, eq_T, eq_F, le_T0, le_F0, lt_F0, lt_T0, eq_T0, eq_F0, eqm_F, up_s2, up_n2, Ev_some, nz_0, nz_1, if_true, if_false, reduceIte, and_true, true_and, and_false, false_and, b2_0, b2_1, Bool.true_eq_false, Bool.false_eq_true, not_true_eq_false, not_false_eq_true, f_X0_laidBy_b4, x_isFilled, f_X0_laidBy_b31, b2_0]
    cases fl (σ (k + 1)) i <;> by_cases h : σ (k + 3) i = w <;> simp [h, b2]) fu 0 0 (by decide) (fu_lt (by decide))
  rw [Int32.zero_add] at h
  exact h
/-- cells outside of a .. b are as they were -/
def Fr (a b : Nat) (σ υ : Sg) : Prop := ∀ x, x < a ∨ b < x → υ x = σ x
theorem Fr.refl {a b : Nat} {σ : Sg} : Fr a b σ σ := fun _ _ => rfl
theorem Fr.trans {a b : Nat} {σ υ φ : Sg} (h : Fr a b σ υ) (g : Fr a b υ φ) : Fr a b σ φ := fun x hx => (g x hx).trans (h x hx)
theorem Fr.up {a b k i : Nat} {σ υ : Sg} {v : Int32} (h : Fr a b σ υ) (hk : a ≤ k ∧ k ≤ b) : Fr a b σ (sg_up υ k i v) := fun x hx => by
  rw [up_a (by omega)]
  exact h x hx
theorem Fr.wide {a b c d : Nat} {σ υ : Sg} (h : Fr a b σ υ) (h1 : c ≤ a) (h2 : b ≤ d) : Fr c d σ υ := fun x hx => h x (by omega)
/-- the class's board at k1 is, in υ, that at k2 in σ -/
def EqB (υ : Sg) (k1 : Nat) (σ : Sg) (k2 : Nat) (n : Nat) : Prop := ∀ i, i < n → υ (k1 + 1) i = σ (k2 + 1) i ∧ υ (k1 + 2) i = σ (k2 + 2) i ∧ υ (k1 + 3) i = σ (k2 + 3) i ∧ υ (k1 + 4) i = σ (k2 + 4) i ∧ υ (k1 + 5) i = σ (k2 + 5) i
/-- the marks of a board are 0 or 1 -/
def BoB (σ : Sg) (k : Nat) : Prop := ∀ i, i < 16 → nz (σ (k + 4) i) = σ (k + 4) i ∧ nz (σ (k + 5) i) = σ (k + 5) i
theorem x_copyB {σ : Sg} {k k1 : Nat} (hd : k + 5 < k1 ∨ k1 + 5 < k) (hb : BoB σ k1) : Ev (f_X0_copyFrom k k1 σ) (fun _ υ => Fr (k + 1) (k + 5) σ υ ∧ EqB υ k σ k1 16) := by
  refine lp_ev (L := fun n i υ => f_X0_copyFrom_b2 k k1 n (nI i) υ) (m := 16) (I := fun i υ => Fr (k + 1) (k + 5) σ υ ∧ EqB υ k σ k1 i) (fun n υ h => ?_) (fun n i υ hi h ih => ?_) fu 0 σ (by decide) (fu_lt (by decide)) ⟨Fr.refl, fun i h => absurd h (Nat.not_lt_zero _)⟩
  · show Ev (f_X0_copyFrom_b2 k k1 (n + 1) (nI 16) υ) _
    simp (disch := omega) only [rdN, wrN, rdZ, wrZ, p_put_eq, call_some, nzN, boN, nI_1, nI_add, pk_mul, lit_4, lit_16, le_T, le_F, lt_T, lt_F, eq_T, eq_F, le_T0, le_F0, lt_F0, lt_T0, eq_T0, eq_F0, eqm_F, up_s2, up_n2, Ev_some, nz_0, nz_1, if_true, if_false, reduceIte, and_true, true_and, and_false, false_and, b2_0, b2_1, Bool.true_eq_false, Bool.false_eq_true, not_true_eq_false, not_false_eq_true, f_X0_copyFrom_b2]
    exact h
  · show Ev (f_X0_copyFrom_b2 k k1 (n + 1) (nI i) υ) _
    obtain ⟨hf, he⟩ := h
    have e1 := hf (k1 + 1) (by omega)
    have e2 := hf (k1 + 2) (by omega)
    have e3 := hf (k1 + 3) (by omega)
    have e4 := hf (k1 + 4) (by omega)
    have e5 := hf (k1 + 5) (by omega)
    obtain ⟨b4, b5⟩ := hb i hi
    simp (disch := omega) only [rdN, wrN, rdZ, wrZ, p_put_eq, call_some, nzN, boN, nI_1, nI_add, pk_mul, lit_4, lit_16, le_T, le_F, lt_T, lt_F, eq_T, eq_F, le_T0, le_F0, lt_F0, lt_T0, eq_T0, eq_F0, eqm_F, up_s2, up_n2, Ev_some, nz_0, nz_1, if_true, if_false, reduceIte, and_true, true_and, and_false, false_and, b2_0, b2_1, Bool.true_eq_false, Bool.false_eq_true, not_true_eq_false, not_false_eq_true, f_X0_copyFrom_b2, e1, e2, e3, e4, e5, b4, b5]
    refine ih _ ⟨((((hf.up (by omega)).up (by omega)).up (by omega)).up (by omega)).up (by omega), fun j hj => ?_⟩
    rcases Nat.lt_or_ge j i with q | q
    · obtain ⟨a1, a2, a3, a4, a5⟩ := he j q
      simp (disch := omega) only [rdN, wrN, rdZ, wrZ, p_put_eq, call_some, nzN, boN, nI_1, nI_add, pk_mul, lit_4, lit_16, le_T, le_F, lt_T, lt_F, eq_T, eq_F, le_T0, le_F0, lt_F0, lt_T0, eq_T0, eq_F0, eqm_F, up_s2, up_n2, Ev_some, nz_0, nz_1, if_true, if_false, reduceIte, and_true, true_and, and_false, false_and, b2_0, b2_1, Bool.true_eq_false, Bool.false_eq_true, not_true_eq_false, not_false_eq_true, a1, a2, a3, a4, a5]
    · have : j = i := by omega
      subst this
      simp (disch := omega) only [rdN, wrN, rdZ, wrZ, p_put_eq, call_some, nzN, boN, nI_1, nI_add, pk_mul, lit_4, lit_16, le_T, le_F, lt_T, lt_F, eq_T, eq_F, le_T0, le_F0, lt_F0, lt_T0, eq_T0, eq_F0, eqm_F, up_s2, up_n2, Ev_some, nz_0, nz_1, if_true, if_false, reduceIte, and_true, true_and, and_false, false_and, b2_0, b2_1, Bool.true_eq_false, Bool.false_eq_true, not_true_eq_false, not_false_eq_true]
theorem x_clearB {σ : Sg} {k : Nat} : Ev (f_X0_clear k σ) (fun _ υ => Fr (k + 1) (k + 5) σ υ ∧ υ (k + 2) = σ (k + 2) ∧ υ (k + 3) = σ (k + 3) ∧ ∀ i, i < 16 → υ (k + 1) i = -1 ∧ υ (k + 4) i = 0 ∧ υ (k + 5) i = 0) := by
  refine lp_ev (L := fun n i υ => f_X0_clear_b2 k n (nI i) υ) (m := 16) (I := fun n υ => Fr (k + 1) (k + 5) σ υ ∧ υ (k + 2) = σ (k + 2) ∧ υ (k + 3) = σ (k + 3) ∧ ∀ i, i < n → υ (k + 1) i = -1 ∧ υ (k + 4) i = 0 ∧ υ (k + 5) i = 0) (fun n υ h => ?_) (fun n i υ hi h ih => ?_) fu 0 σ (by decide) (fu_lt (by decide)) ⟨Fr.refl, rfl, rfl, fun i h => absurd h (Nat.not_lt_zero _)⟩
  · show Ev (f_X0_clear_b2 k (n + 1) (nI 16) υ) _
    simp (disch := omega) only [rdN, wrN, rdZ, wrZ, p_put_eq, call_some, nzN, boN, nI_1, nI_add, pk_mul, lit_4, lit_16, le_T, le_F, lt_T, lt_F, eq_T, eq_F, le_T0, le_F0, lt_F0, lt_T0, eq_T0, eq_F0, eqm_F, up_s2, up_n2, Ev_some, nz_0, nz_1, if_true, if_false, reduceIte, and_true, true_and, and_false, false_and, b2_0, b2_1, Bool.true_eq_false, Bool.false_eq_true, not_true_eq_false, not_false_eq_true, f_X0_clear_b2]
    exact h
  · show Ev (f_X0_clear_b2 k (n + 1) (nI i) υ) _
    obtain ⟨hf, h2, h3, he⟩ := h
    simp (disch := omega) only [rdN, wrN, rdZ, wrZ, p_put_eq, call_some, nzN, boN, nI_1, nI_add, pk_mul, lit_4, lit_16, le_T, le_F, lt_T, lt_F, eq_T, eq_F, le_T0, le_F0, lt_F0, lt_T0, eq_T0, eq_F0, eqm_F, up_s2, up_n2, Ev_some, nz_0, nz_1, if_true, if_false, reduceIte, and_true, true_and, and_false, false_and, b2_0, b2_1, Bool.true_eq_false, Bool.false_eq_true, not_true_eq_false, not_false_eq_true, f_X0_clear_b2]
    refine ih _ ⟨((hf.up (by omega)).up (by omega)).up (by omega), ?_, ?_, fun j hj => ?_⟩
    · rw [up_a (by omega), up_a (by omega), up_a (by omega), h2]
    · rw [up_a (by omega), up_a (by omega), up_a (by omega), h3]
    rcases Nat.lt_or_ge j i with q | q
    · obtain ⟨a1, a2, a3⟩ := he j q
      simp (disch := omega) only [rdN, wrN, rdZ, wrZ, p_put_eq, call_some, nzN, boN, nI_1, nI_add, pk_mul, lit_4, lit_16, le_T, le_F, lt_T, lt_F, eq_T, eq_F, le_T0, le_F0, lt_F0, lt_T0, eq_T0, eq_F0, eqm_F, up_s2, up_n2, Ev_some, nz_0, nz_1, if_true, if_false, reduceIte, and_true, true_and, and_false, false_and, b2_0, b2_1, Bool.true_eq_false, Bool.false_eq_true, not_true_eq_false, not_false_eq_true, a1, a2, a3]
    · have : j = i := by omega
      subst this
      simp (disch := omega) only [rdN, wrN, rdZ, wrZ, p_put_eq, call_some, nzN, boN, nI_1, nI_add, pk_mul, lit_4, lit_16, le_T, le_F, lt_T, lt_F, eq_T, eq_F, le_T0, le_F0, lt_F0, lt_T0, eq_T0, eq_F0, eqm_F, up_s2, up_n2, Ev_some, nz_0, nz_1, if_true, if_false, reduceIte, and_true, true_and, and_false, false_and, b2_0, b2_1, Bool.true_eq_false, Bool.false_eq_true, not_true_eq_false, not_false_eq_true]
/-- a piece is taken away wherever it lies -/
theorem x_takeAway {σ : Sg} {k p : Nat} (hp : p < 16) : Ev (f_X0_takeAway k (nI p) σ) (fun _ υ => Fr (k + 1) (k + 5) σ υ ∧ υ (k + 2) = σ (k + 2) ∧ υ (k + 3) = σ (k + 3) ∧ ∀ i, i < 16 → υ (k + 1) i = if σ (k + 1) i = nI p then -1 else σ (k + 1) i) := by
  refine lp_ev (L := fun n i υ => f_X0_takeAway_b2 k n (nI p) (nI i) υ) (m := 16) (I := fun n υ => Fr (k + 1) (k + 5) σ υ ∧ υ (k + 2) = σ (k + 2) ∧ υ (k + 3) = σ (k + 3) ∧ ∀ i, i < 16 → υ (k + 1) i = if σ (k + 1) i = nI p ∧ i < n then -1 else σ (k + 1) i) (fun n υ h => ?_) (fun n i υ hi h ih => ?_) fu 0 σ (by decide) (fu_lt (by decide)) ⟨Fr.refl, rfl, rfl, fun i h => by rw [if_neg (fun q => Nat.not_lt_zero _ q.2)]⟩
  · show Ev (f_X0_takeAway_b2 k (n + 1) (nI p) (nI 16) υ) _
    simp (disch := omega) only [rdN, wrN, rdZ, wrZ, p_put_eq, call_some, nzN, boN, nI_1, nI_add, pk_mul, lit_4, lit_16, le_T, le_F, lt_T, lt_F, eq_T, eq_F, le_T0, le_F0, lt_F0, lt_T0, eq_T0, eq_F0, eqm_F, up_s2, up_n2, Ev_some, nz_0, nz_1, if_true, if_false, reduceIte, and_true, true_and, and_false, false_and, b2_0, b2_1, Bool.true_eq_false, Bool.false_eq_true, not_true_eq_false, not_false_eq_true, f_X0_takeAway_b2]
    obtain ⟨a, b, c, d⟩ := h
    exact ⟨a, b, c, fun i hi => by rw [d i hi]; simp [hi]⟩
  · show Ev (f_X0_takeAway_b2 k (n + 1) (nI p) (nI i) υ) _
    obtain ⟨hf, h2, h3, he⟩ := h
    have hi' := he i hi
    rw [if_neg (by omega)] at hi'
    simp (disch := omega) only [rdN, wrN, rdZ, wrZ, p_put_eq, call_some, nzN, boN, nI_1, nI_add, pk_mul, lit_4, lit_16, le_T, le_F, lt_T, lt_F, eq_T, eq_F, le_T0, le_F0, lt_F0, lt_T0, eq_T0, eq_F0, eqm_F, up_s2, up_n2, Ev_some, nz_0, nz_1, if_true, if_false, reduceIte, and_true, true_and, and_false, false_and, b2_0, b2_1, Bool.true_eq_false, Bool.false_eq_true, not_true_eq_false, not_false_eq_true, f_X0_takeAway_b2, hi']
    by_cases hv : σ (k + 1) i = nI p
    · rw [if_pos hv, x_takeUp hi hp (hi'.trans hv)]
      simp (disch := omega) only [rdN, wrN, rdZ, wrZ, p_put_eq, call_some, nzN, boN, nI_1, nI_add, pk_mul, lit_4, lit_16, le_T, le_F, lt_T, lt_F, eq_T, eq_F, le_T0, le_F0, lt_F0, lt_T0, eq_T0, eq_F0, eqm_F, up_s2, up_n2, Ev_some, nz_0, nz_1, if_true, if_false, reduceIte, and_true, true_and, and_false, false_and, b2_0, b2_1, Bool.true_eq_false, Bool.false_eq_true, not_true_eq_false, not_false_eq_true, f_X0_takeAway_b24]
      refine ih _ ⟨(hf.up (by omega)).up (by omega), ?_, ?_, fun j hj => ?_⟩
      · rw [up_a (by omega), up_a (by omega), h2]
      · rw [up_a (by omega), up_a (by omega), h3]
      rcases Nat.lt_or_ge j i with q | q
      · simp (disch := omega) only [rdN, wrN, rdZ, wrZ, p_put_eq, call_some, nzN, boN, nI_1, nI_add, pk_mul, lit_4, lit_16, le_T, le_F, lt_T, lt_F, eq_T, eq_F, le_T0, le_F0, lt_F0, lt_T0, eq_T0, eq_F0, eqm_F, up_s2, up_n2, Ev_some, nz_0, nz_1, if_true, if_false, reduceIte, and_true, true_and, and_false, false_and, b2_0, b2_1, Bool.true_eq_false, Bool.false_eq_true, not_true_eq_false, not_false_eq_true, he j hj]
        by_cases hw : σ (k + 1) j = nI p
        · rw [if_pos ⟨hw, q⟩, if_pos ⟨hw, by omega⟩]
        · rw [if_neg (fun x => hw x.1), if_neg (fun x => hw x.1)]
      · rcases Nat.lt_or_ge i j with q2 | q2
        · simp (disch := omega) only [rdN, wrN, rdZ, wrZ, p_put_eq, call_some, nzN, boN, nI_1, nI_add, pk_mul, lit_4, lit_16, le_T, le_F, lt_T, lt_F, eq_T, eq_F, le_T0, le_F0, lt_F0, lt_T0, eq_T0, eq_F0, eqm_F, up_s2, up_n2, Ev_some, nz_0, nz_1, if_true, if_false, reduceIte, and_true, true_and, and_false, false_and, b2_0, b2_1, Bool.true_eq_false, Bool.false_eq_true, not_true_eq_false, not_false_eq_true, he j hj]
          rw [if_neg (by omega), if_neg (by omega)]
        · have : j = i := by omega
          subst this
          simp (disch := omega) only [rdN, wrN, rdZ, wrZ, p_put_eq, call_some, nzN, boN, nI_1, nI_add, pk_mul, lit_4, lit_16, le_T, le_F, lt_T, lt_F, eq_T, eq_F, le_T0, le_F0, lt_F0, lt_T0, eq_T0, eq_F0, eqm_F, up_s2, up_n2, Ev_some, nz_0, nz_1, if_true, if_false, reduceIte, and_true, true_and, and_false, false_and, b2_0, b2_1, Bool.true_eq_false, Bool.false_eq_true, not_true_eq_false, not_false_eq_true]
          rw [if_pos ⟨hv, by omega⟩]
    · rw [if_neg hv]
      simp (disch := omega) only [rdN, wrN, rdZ, wrZ, p_put_eq, call_some, nzN, boN, nI_1, nI_add, pk_mul, lit_4, lit_16, le_T, le_F, lt_T, lt_F, eq_T, eq_F, le_T0, le_F0, lt_F0, lt_T0, eq_T0, eq_F0, eqm_F, up_s2, up_n2, Ev_some, nz_0, nz_1, if_true, if_false, reduceIte, and_true, true_and, and_false, false_and, b2_0, b2_1, Bool.true_eq_false, Bool.false_eq_true, not_true_eq_false, not_false_eq_true, f_X0_takeAway_b24]
      refine ih _ ⟨hf, h2, h3, fun j hj => ?_⟩
      rw [he j hj]
      by_cases hw : σ (k + 1) j = nI p
      · have : j ≠ i := fun e => hv (e ▸ hw)
        by_cases q : j < i
        · rw [if_pos ⟨hw, q⟩, if_pos ⟨hw, by omega⟩]
        · rw [if_neg (fun x => q x.2), if_neg (fun x => by omega)]
      · rw [if_neg (fun x => hw x.1), if_neg (fun x => hw x.1)]
