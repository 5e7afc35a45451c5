/-! the reference's methods that only read: closed forms -/
theorem y_cells {τ : Sg} {k r c : Nat} (hz : Sz τ k r c) : f_X11_cells k τ = some (nI (r * c), τ) := by
  unfold f_X11_cells
  rw [hz.cells]
theorem y_beside {τ : Sg} {k r c p s : Nat} (hz : Sz τ k r c) (hp : p < r * c) (hs : s < 4) : f_X11_beside k (nI p) (nI s) τ = some (bsI (bs r c p s), τ) := (e_beside hz.1 hz.2.1 hz.2.2.1 hz.2.2.2 hp hs).eq
theorem y_sideOf {τ : Sg} {k r c p s : Nat} (hz : Sz τ k r c) (hp : p < r * c) (hs : s < 4) : f_X11_sideOf k (nI p) (nI s) τ = some (sdv (τ (k + 2)) (τ (k + 3)) r c p s, τ) := (e_sideOf hz hp hs).eq
theorem y_turned {τ : Sg} {k r c p s t : Nat} (hz : Sz τ k r c) (hp : p < r * c) (hs : s < 4) (ht : t < 4) : f_X11_turned k (nI p) (nI t) (nI s) τ = some (sdv (τ (k + 2)) (τ (k + 3)) r c p ((s + 4 - t) % 4), τ) := (e_turned hz hp hs ht).eq
theorem y_isRim {τ : Sg} {k r c p : Nat} (hz : Sz τ k r c) (hp : p < r * c) : f_X11_isRim k (nI p) τ = some (b2 (rim r c p), τ) := (e_isRim hz hp).eq
theorem y_doesFit {τ : Sg} {k r c p t q : Nat} (hz : Sz τ k r c) (hb : Bd τ k r c) (hp : p < r * c) (ht : t < 4) (hq : q < r * c) : f_X11_doesFit k (nI p) (nI t) (nI q) τ = some (b2 (fit (τ (k + 2)) (τ (k + 3)) (τ (k + 5)) (τ (k + 6)) r c p t q), τ) := (e_doesFit hz hb hp ht hq).eq
theorem y_kindAt {τ : Sg} {k r c p t q : Nat} (hz : Sz τ k r c) (hb : Bd τ k r c) (hp : p < r * c) (ht : t < 4) (hq : q < r * c) : f_X11_kindAt k (nI p) (nI t) (nI q) τ = some (kindV (τ (k + 2)) (τ (k + 3)) (τ (k + 5)) (τ (k + 6)) r c p t q, τ) := (e_kindAt hz hb hp ht hq).eq
theorem y_secondsOf {τ : Sg} {k r c p t q w : Nat} (hz : Sz τ k r c) (hb : Bd τ k r c) (hw : w < 6) (hp : p < r * c) (ht : t < 4) (hq : q < r * c) : f_X11_secondsOf k (nI w) (nI p) (nI t) (nI q) τ = some (secV (τ (k + 9) w) (τ (k + 10) w) (τ (k + 4)) (τ (k + 2)) (τ (k + 3)) (τ (k + 5)) (τ (k + 6)) r c p t q, τ) := (e_secondsOf hz hb hw hp ht hq).eq
theorem y_isLaid {τ : Sg} {k r c : Nat} {x : Int32} (hz : Sz τ k r c) : f_X11_isLaid k x τ = some (b2 (laidB (τ (k + 5)) (r * c) x), τ) := (e_isLaid hz).eq
theorem y_isIn {τ : Sg} {x a b : Int32} : f_X11_isIn x a b τ = some (b2 (decide (a ≤ x) && decide (x ≤ b)), τ) := by
  rw [e_isIn.eq]
  by_cases h1 : a ≤ x <;> by_cases h2 : x ≤ b <;> simp [h1, h2, b2]
theorem y_isCell {τ : Sg} {k r c : Nat} {x : Int32} (hz : Sz τ k r c) : f_X11_isCell k x τ = some (b2 (decide (0 ≤ x) && decide (x < nI (r * c))), τ) := by
  rw [e_isCell.eq, hz.cells]
  by_cases h1 : 0 ≤ x <;> by_cases h2 : x < nI (r * c) <;> simp [h1, h2, b2]
theorem y_isPerson {τ : Sg} {k : Nat} {x : Int32} : f_X11_isPerson k x τ = some (b2 (decide (0 ≤ x) && decide (x < τ k 13)), τ) := by
  rw [e_isPerson.eq]
  by_cases h1 : 0 ≤ x <;> by_cases h2 : x < τ k 13 <;> simp [h1, h2, b2]
theorem y_bound {τ : Sg} {x a b : Int32} : f_X11_bound x a b τ = some (if a ≤ x then (if x ≤ b then 0 else -6) else -4, τ) := e_bound.eq
/-- the cell q is laid, by the reference's reading -/
def flR (pc : Nat → Int32) (q : Nat) : Bool := !decide (pc q < 0)
section RC
variable {τ : Sg} {k r c : Nat}
theorem y_laidMany (hz : Sz τ k r c) : f_X11_laidMany k τ = some (sm (fun q => b2 (flR (τ (k + 5)) q)) 0 (r * c), τ) := by
  have hrc := hz.rc
  have h := lp_sm (L := fun n i a => f_X11_laidMany_b4 k n a (nI i) τ) (m := r * c) (g := fun q => b2 (flR (τ (k + 5)) q)) (E := fun a => some (a, τ)) (fun n a => by
    show f_X11_laidMany_b4 k (n + 1) a (nI (r * c)) τ = _
    simp (disch := omega) only [rdN, wrN, rdZ, wrZ, p_put_eq, call_some, nzN, boN, nI_1, nI_add, pk_mul, lit_4, lit_16, le_T, le_F, lt_T, lt_F, eq_T, eq_F, le_T0, le_F0, lt_F0, lt_T0, eq_T0, eq_F0, eqm_F, up_s2, up_n2, Ev_some, nz_0, nz_1, if_true, if_false, reduceIte, and_true, true_and, and_false, false_and, b2_0, b2_1, Bool.true_eq_false, Bool.false_eq_true, not_true_eq_false, not_false_eq_true, f_X11_laidMany_b4, y_cells hz]) (fun n i a hi => by
    show f_X11_laidMany_b4 k (n + 1) a (nI i) τ = f_X11_laidMany_b4 k n (a + _) (nI (i + 1)) τ
    simp (disch := omega) only [rdN, wrN, rdZ, wrZ, p_put_eq, call_some, nzN, boN, nI_1, nI_add, pk_mul, lit_4, lit_16, le_T, le_F, lt_T, lt_F, eq_T, eq_F, le_T0, le_F0, lt_F0, lt_T0, eq_T0, eq_F0, eqm_F, up_s2, up_n2, Ev_some, nz_0, nz_1, if_true, if_false, reduceIte, and_true, true_and, and_false, false_and, b2_0, b2_1, Bool.true_eq_false, Bool.false_eq_true, not_true_eq_false, not_false_eq_true, f_X11_laidMany_b4, y_cells hz, f_X11_laidMany_b27, flR]
    by_cases h : τ (k + 5) i < 0 <;> simp [h, b2]) fu 0 0 (Nat.zero_le _) (fu_lt (by omega))
  rw [Int32.zero_add] at h
  exact h
theorem y_lostMany (hz : Sz τ k r c) : f_X11_lostMany k τ = some (sm (τ (k + 8)) 0 (r * c), τ) := by
  have hrc := hz.rc
  have h := lp_sm (L := fun n i a => f_X11_lostMany_b4 k n a (nI i) τ) (m := r * c) (g := τ (k + 8)) (E := fun a => some (a, τ)) (fun n a => by
    show f_X11_lostMany_b4 k (n + 1) a (nI (r * c)) τ = _
    simp (disch := omega) only [rdN, wrN, rdZ, wrZ, p_put_eq, call_some, nzN, boN, nI_1, nI_add, pk_mul, lit_4, lit_16, le_T, le_F, lt_T, lt_F, eq_T, eq_F, le_T0, le_F0, lt_F0, lt_T0, eq_T0, eq_F0, eqm_F, up_s2, up_n2, Ev_some, nz_0, nz_1, if_true, if_false, reduceIte, and_true, true_and, and_false, false_and, b2_0, b2_1, Bool.true_eq_false, Bool.false_eq_true, not_true_eq_false, not_false_eq_true, f_X11_lostMany_b4, y_cells hz]) (fun n i a hi => by
    show f_X11_lostMany_b4 k (n + 1) a (nI i) τ = f_X11_lostMany_b4 k n (a + _) (nI (i + 1)) τ
    simp (disch := omega) only [rdN, wrN, rdZ, wrZ, p_put_eq, call_some, nzN, boN, nI_1, nI_add, pk_mul, lit_4, lit_16, le_T, le_F, lt_T, lt_F, eq_T, eq_F, le_T0, le_F0, lt_F0, lt_T0, eq_T0, eq_F0, eqm_F, up_s2, up_n2, Ev_some, nz_0, nz_1, if_true, if_false, reduceIte, and_true, true_and, and_false, false_and, b2_0, b2_1, Bool.true_eq_false, Bool.false_eq_true, not_true_eq_false, not_false_eq_true, f_X11_lostMany_b4, y_cells hz]) fu 0 0 (Nat.zero_le _) (fu_lt (by omega))
  rw [Int32.zero_add] at h
  exact h
theorem y_nubs {p : Nat} (hz : Sz τ k r c) (hp : p < r * c) : f_X11_nubs k (nI p) τ = some (nubV (τ (k + 2)) (τ (k + 3)) r c p, τ) := by
  have h := lp_sm (L := fun n i a => f_X11_nubs_b4 k n (nI p) a (nI i) τ) (m := 4) (g := fun s => b2 (!decide (sdv (τ (k + 2)) (τ (k + 3)) r c p s ≤ 0))) (E := fun a => some (a, τ)) (fun n a => by
    show f_X11_nubs_b4 k (n + 1) (nI p) a (nI 4) τ = _
    simp (disch := omega) only [rdN, wrN, rdZ, wrZ, p_put_eq, call_some, nzN, boN, nI_1, nI_add, pk_mul, lit_4, lit_16, le_T, le_F, lt_T, lt_F, eq_T, eq_F, le_T0, le_F0, lt_F0, lt_T0, eq_T0, eq_F0, eqm_F, up_s2, up_n2, Ev_some, nz_0, nz_1, if_true, if_false, reduceIte, and_true, true_and, and_false, false_and, b2_0, b2_1, Bool.true_eq_false, Bool.false_eq_true, not_true_eq_false, not_false_eq_true, f_X11_nubs_b4]) (fun n s a hs => by
    show f_X11_nubs_b4 k (n + 1) (nI p) a (nI s) τ = f_X11_nubs_b4 k n (nI p) (a + _) (nI (s + 1)) τ
    simp (disch := omega) only [rdN, wrN, rdZ, wrZ, p_put_eq, call_some, nzN, boN, nI_1, nI_add, pk_mul, lit_4, lit_16, le_T, le_F, lt_T, lt_F, eq_T, eq_F, le_T0, le_F0, lt_F0, lt_T0, eq_T0, eq_F0, eqm_F, up_s2, up_n2, Ev_some, nz_0, nz_1, if_true, if_false, reduceIte, and_true, true_and, and_false, false_and, b2_0, b2_1, Bool.true_eq_false, Bool.false_eq_true, not_true_eq_false, not_false_eq_true, f_X11_nubs_b4, f_X11_nubs_b24, y_sideOf hz hp hs]
    by_cases h : sdv (τ (k + 2)) (τ (k + 3)) r c p s ≤ 0 <;> simp [h, b2]) fu 0 0 (by decide) (fu_lt (by decide))
  rw [Int32.zero_add] at h
  exact h
/-- a piece has a flat side -/
def flat (ri dn : Nat → Int32) (r c p : Nat) : Bool := (ff (fun s => decide (sdv ri dn r c p s = 0)) 0 4).isSome
theorem y_hasFlat {p : Nat} (hz : Sz τ k r c) (hp : p < r * c) : f_X11_hasFlat k (nI p) τ = some (b2 (flat (τ (k + 2)) (τ (k + 3)) r c p), τ) := by
  have h := lp_ff (L := fun n s => f_X11_hasFlat_b2 k n (nI p) (nI s) τ) (m := 4) (p := fun s => decide (sdv (τ (k + 2)) (τ (k + 3)) r c p s = 0)) (E := some (0, τ)) (F := fun _ => some (1, τ)) (fun n => by
    show f_X11_hasFlat_b2 k (n + 1) (nI p) (nI 4) τ = _
    simp (disch := omega) only [rdN, wrN, rdZ, wrZ, p_put_eq, call_some, nzN, boN, nI_1, nI_add, pk_mul, lit_4, lit_16, le_T, le_F, lt_T, lt_F, eq_T, eq_F, le_T0, le_F0, lt_F0, lt_T0, eq_T0, eq_F0, eqm_F, up_s2, up_n2, Ev_some, nz_0, nz_1, if_true, if_false, reduceIte, and_true, true_and, and_false, false_and, b2_0, b2_1, Bool.true_eq_false, Bool.false_eq_true, not_true_eq_false, not_false_eq_true, f_X11_hasFlat_b2]) (fun n s hs => by
    show f_X11_hasFlat_b2 k (n + 1) (nI p) (nI s) τ = if _ then _ else f_X11_hasFlat_b2 k n (nI p) (nI (s + 1)) τ
    simp (disch := omega) only [rdN, wrN, rdZ, wrZ, p_put_eq, call_some, nzN, boN, nI_1, nI_add, pk_mul, lit_4, lit_16, le_T, le_F, lt_T, lt_F, eq_T, eq_F, le_T0, le_F0, lt_F0, lt_T0, eq_T0, eq_F0, eqm_F, up_s2, up_n2, Ev_some, nz_0, nz_1, if_true, if_false, reduceIte, and_true, true_and, and_false, false_and, b2_0, b2_1, Bool.true_eq_false, Bool.false_eq_true, not_true_eq_false, not_false_eq_true, f_X11_hasFlat_b2, y_sideOf hz hp hs, decide_eq_true_eq]) fu 0 (by decide) (fu_lt (by decide))
  unfold flat
  refine Eq.trans h ?_
  cases ff (fun s => decide (sdv (τ (k + 2)) (τ (k + 3)) r c p s = 0)) 0 (4 - 0) <;> rfl
/-- a rule asks for the piece p at the cell q -/
def askV (co ri dn : Nat → Int32) (r c u p q : Nat) : Bool := if u = 0 then true else if u = 1 then !(rim r c q) || flat ri dn r c p else if u = 2 then decide (co p = co q) else decide (nubV ri dn r c p = nubV ri dn r c q)
theorem y_isAsked {u p q : Nat} (hz : Sz τ k r c) (hu : u < 5) (hp : p < r * c) (hq : q < r * c) : f_X11_isAsked k (nI u) (nI p) (nI q) τ = some (b2 (askV (τ (k + 4)) (τ (k + 2)) (τ (k + 3)) r c u p q), τ) := by
  have hrc := hz.rc
  unfold f_X11_isAsked f_X11_isAsked_b46 askV
  rcases (show u = 0 ∨ u = 1 ∨ u = 2 ∨ u = 3 ∨ u = 4 by omega) with rfl | rfl | rfl | rfl | rfl
  · simp (disch := omega) only [rdN, wrN, rdZ, wrZ, p_put_eq, call_some, nzN, boN, nI_1, nI_add, pk_mul, lit_4, lit_16, le_T, le_F, lt_T, lt_F, eq_T, eq_F, le_T0, le_F0, lt_F0, lt_T0, eq_T0, eq_F0, eqm_F, up_s2, up_n2, Ev_some, nz_0, nz_1, if_true, if_false, reduceIte, and_true, true_and, and_false, false_and, b2_0, b2_1, Bool.true_eq_false, Bool.false_eq_true, not_true_eq_false, not_false_eq_true]
    rfl
  · simp (disch := omega) only [rdN, wrN, rdZ, wrZ, p_put_eq, call_some, nzN, boN, nI_1, nI_add, pk_mul, lit_4, lit_16, le_T, le_F, lt_T, lt_F, eq_T, eq_F, le_T0, le_F0, lt_F0, lt_T0, eq_T0, eq_F0, eqm_F, up_s2, up_n2, Ev_some, nz_0, nz_1, if_true, if_false, reduceIte, and_true, true_and, and_false, false_and, b2_0, b2_1, Bool.true_eq_false, Bool.false_eq_true, not_true_eq_false, not_false_eq_true, q_1, y_isRim hz hq, y_hasFlat hz hp]
    cases rim r c q <;> cases flat (τ (k + 2)) (τ (k + 3)) r c p <;> rfl
  · simp (disch := omega) only [rdN, wrN, rdZ, wrZ, p_put_eq, call_some, nzN, boN, nI_1, nI_add, pk_mul, lit_4, lit_16, le_T, le_F, lt_T, lt_F, eq_T, eq_F, le_T0, le_F0, lt_F0, lt_T0, eq_T0, eq_F0, eqm_F, up_s2, up_n2, Ev_some, nz_0, nz_1, if_true, if_false, reduceIte, and_true, true_and, and_false, false_and, b2_0, b2_1, Bool.true_eq_false, Bool.false_eq_true, not_true_eq_false, not_false_eq_true, q_1, q_2]
    by_cases h : τ (k + 4) p = τ (k + 4) q <;> simp [h, b2]
  · simp (disch := omega) only [rdN, wrN, rdZ, wrZ, p_put_eq, call_some, nzN, boN, nI_1, nI_add, pk_mul, lit_4, lit_16, le_T, le_F, lt_T, lt_F, eq_T, eq_F, le_T0, le_F0, lt_F0, lt_T0, eq_T0, eq_F0, eqm_F, up_s2, up_n2, Ev_some, nz_0, nz_1, if_true, if_false, reduceIte, and_true, true_and, and_false, false_and, b2_0, b2_1, Bool.true_eq_false, Bool.false_eq_true, not_true_eq_false, not_false_eq_true, q_1, q_2, y_nubs hz hp, y_nubs hz hq]
    by_cases h : nubV (τ (k + 2)) (τ (k + 3)) r c p = nubV (τ (k + 2)) (τ (k + 3)) r c q <;> simp [h, b2]
  · simp (disch := omega) only [rdN, wrN, rdZ, wrZ, p_put_eq, call_some, nzN, boN, nI_1, nI_add, pk_mul, lit_4, lit_16, le_T, le_F, lt_T, lt_F, eq_T, eq_F, le_T0, le_F0, lt_F0, lt_T0, eq_T0, eq_F0, eqm_F, up_s2, up_n2, Ev_some, nz_0, nz_1, if_true, if_false, reduceIte, and_true, true_and, and_false, false_and, b2_0, b2_1, Bool.true_eq_false, Bool.false_eq_true, not_true_eq_false, not_false_eq_true, q_1, q_2, y_nubs hz hp, y_nubs hz hq]
    by_cases h : nubV (τ (k + 2)) (τ (k + 3)) r c p = nubV (τ (k + 2)) (τ (k + 3)) r c q <;> simp [h, b2]
theorem y_formOf {p t : Nat} (hz : Sz τ k r c) (hp : p < r * c) (ht : t < 4) : f_X11_formOf k (nI p) (nI t) τ = some (codV 20 (τ (k + 2)) (τ (k + 3)) r c p t, τ) := by
  have st : ∀ n s a, s < 4 → f_X11_formOf_b5 k (n + 1) (nI p) (nI t) a (nI s) τ = f_X11_formOf_b5 k n (nI p) (nI t) (a * 20 + sdv (τ (k + 2)) (τ (k + 3)) r c p ((s + 4 - t) % 4) + 9) (nI (s + 1)) τ := fun n s a hs => by
    rw [f_X11_formOf_b5, Int32.mul_comm 20 a]
    simp (disch := omega) only [rdN, wrN, rdZ, wrZ, p_put_eq, call_some, nzN, boN, nI_1, nI_add, pk_mul, lit_4, lit_16, le_T, le_F, lt_T, lt_F, eq_T, eq_F, le_T0, le_F0, lt_F0, lt_T0, eq_T0, eq_F0, eqm_F, up_s2, up_n2, Ev_some, nz_0, nz_1, if_true, if_false, reduceIte, and_true, true_and, and_false, false_and, b2_0, b2_1, Bool.true_eq_false, Bool.false_eq_true, not_true_eq_false, not_false_eq_true, y_turned hz hp hs ht]
  have key : ∀ n, f_X11_formOf_b5 k (n + 1 + 1 + 1 + 1 + 1) (nI p) (nI t) 0 (nI 0) τ = some (codV 20 (τ (k + 2)) (τ (k + 3)) r c p t, τ) := fun n => by
    rw [st _ 0 _ (by decide), st _ (0 + 1) _ (by decide), st _ (0 + 1 + 1) _ (by decide), st _ (0 + 1 + 1 + 1) _ (by decide), f_X11_formOf_b5]
    simp (disch := omega) only [rdN, wrN, rdZ, wrZ, p_put_eq, call_some, nzN, boN, nI_1, nI_add, pk_mul, lit_4, lit_16, le_T, le_F, lt_T, lt_F, eq_T, eq_F, le_T0, le_F0, lt_F0, lt_T0, eq_T0, eq_F0, eqm_F, up_s2, up_n2, Ev_some, nz_0, nz_1, if_true, if_false, reduceIte, and_true, true_and, and_false, false_and, b2_0, b2_1, Bool.true_eq_false, Bool.false_eq_true, not_true_eq_false, not_false_eq_true]
    rfl
  exact key 99999995
theorem y_isOwn {q : Nat} (hq : q < 16) : f_X11_isOwn k (nI q) τ = some (b2 (own (τ (k + 5)) (τ (k + 6)) q), τ) := by
  unfold f_X11_isOwn own
  simp (disch := omega) only [rdN, wrN, rdZ, wrZ, p_put_eq, call_some, nzN, boN, nI_1, nI_add, pk_mul, lit_4, lit_16, le_T, le_F, lt_T, lt_F, eq_T, eq_F, le_T0, le_F0, lt_F0, lt_T0, eq_T0, eq_F0, eqm_F, up_s2, up_n2, Ev_some, nz_0, nz_1, if_true, if_false, reduceIte, and_true, true_and, and_false, false_and, b2_0, b2_1, Bool.true_eq_false, Bool.false_eq_true, not_true_eq_false, not_false_eq_true]
  by_cases h : τ (k + 5) q = nI q <;> by_cases h2 : τ (k + 6) q = 0 <;> simp [h, h2, b2]
theorem y_wrong (hz : Sz τ k r c) : f_X11_wrong k τ = some (sm (fun q => b2 (!(own (τ (k + 5)) (τ (k + 6)) q))) 0 (r * c), τ) := by
  have hrc := hz.rc
  have h := lp_sm (L := fun n i a => f_X11_wrong_b4 k n a (nI i) τ) (m := r * c) (g := fun q => b2 (!(own (τ (k + 5)) (τ (k + 6)) q))) (E := fun a => some (a, τ)) (fun n a => by
    show f_X11_wrong_b4 k (n + 1) a (nI (r * c)) τ = _
    simp (disch := omega) only [rdN, wrN, rdZ, wrZ, p_put_eq, call_some, nzN, boN, nI_1, nI_add, pk_mul, lit_4, lit_16, le_T, le_F, lt_T, lt_F, eq_T, eq_F, le_T0, le_F0, lt_F0, lt_T0, eq_T0, eq_F0, eqm_F, up_s2, up_n2, Ev_some, nz_0, nz_1, if_true, if_false, reduceIte, and_true, true_and, and_false, false_and, b2_0, b2_1, Bool.true_eq_false, Bool.false_eq_true, not_true_eq_false, not_false_eq_true, f_X11_wrong_b4, y_cells hz]) (fun n i a hi => by
    have hi' : i < 16 := by omega
    show f_X11_wrong_b4 k (n + 1) a (nI i) τ = f_X11_wrong_b4 k n (a + _) (nI (i + 1)) τ
    simp (disch := omega) only [rdN, wrN, rdZ, wrZ, p_put_eq, call_some, nzN, boN, nI_1, nI_add, pk_mul, lit_4, lit_16, le_T, le_F, lt_T, lt_F, eq_T, eq_F, le_T0, le_F0, lt_F0, lt_T0, eq_T0, eq_F0, eqm_F, up_s2, up_n2, Ev_some, nz_0, nz_1, if_true, if_false, reduceIte, and_true, true_and, and_false, false_and, b2_0, b2_1, Bool.true_eq_false, Bool.false_eq_true, not_true_eq_false, not_false_eq_true, f_X11_wrong_b4, y_cells hz, y_isOwn hi', f_X11_wrong_b26]
    cases own (τ (k + 5)) (τ (k + 6)) i <;> simp [b2]) fu 0 0 (Nat.zero_le _) (fu_lt (by omega))
  rw [Int32.zero_add] at h
  exact h
/-- the first place, or -9 -/
def orN (o : Option Nat) : Int32 := match o with
  | none => -9
  | some j => nI j
theorem orN_m {o : Option Nat} {τ : Sg} : (match o with
    | none => some ((-9 : Int32), τ)
    | some j => some (nI j, τ)) = some (orN o, τ) := by cases o <;> rfl
theorem y_falseOne (hz : Sz τ k r c) : f_X11_falseOne k τ = some (orN (ff (fun q => flR (τ (k + 5)) q && !(own (τ (k + 5)) (τ (k + 6)) q)) 0 (r * c)), τ) := by
  have hrc := hz.rc
  have h := lp_ff (L := fun n i => f_X11_falseOne_b2 k n (nI i) τ) (m := r * c) (p := fun q => flR (τ (k + 5)) q && !(own (τ (k + 5)) (τ (k + 6)) q)) (E := some (-9, τ)) (F := fun j => some (nI j, τ)) (fun n => by
    show f_X11_falseOne_b2 k (n + 1) (nI (r * c)) τ = _
    simp (disch := omega) only [rdN, wrN, rdZ, wrZ, p_put_eq, call_some, nzN, boN, nI_1, nI_add, pk_mul, lit_4, lit_16, le_T, le_F, lt_T, lt_F, eq_T, eq_F, le_T0, le_F0, lt_F0, lt_T0, eq_T0, eq_F0, eqm_F, up_s2, up_n2, Ev_some, nz_0, nz_1, if_true, if_false, reduceIte, and_true, true_and, and_false, false_and, b2_0, b2_1, Bool.true_eq_false, Bool.false_eq_true, not_true_eq_false, not_false_eq_true, f_X11_falseOne_b2, y_cells hz]) (fun n i hi => by
    have hi' : i < 16 := by omega
    show f_X11_falseOne_b2 k (n + 1) (nI i) τ = if _ then _ else f_X11_falseOne_b2 k n (nI (i + 1)) τ
    simp (disch := omega) only [rdN, wrN, rdZ, wrZ, p_put_eq, call_some, nzN, boN, nI_1, nI_add, pk_mul, lit_4, lit_16, le_T, le_F, lt_T, lt_F, eq_T, eq_F, le_T0, le_F0, lt_F0, lt_T0, eq_T0, eq_F0, eqm_F, up_s2, up_n2, Ev_some, nz_0, nz_1, if_true, if_false, reduceIte, and_true, true_and, and_false, false_and, b2_0, b2_1, Bool.true_eq_false, Bool.false_eq_true, not_true_eq_false, not_false_eq_true, f_X11_falseOne_b2, y_cells hz, y_isOwn hi', f_X11_falseOne_b29, flR]
    by_cases h : τ (k + 5) i < 0 <;> cases own (τ (k + 5)) (τ (k + 6)) i <;> simp [h]) fu 0 (Nat.zero_le _) (fu_lt (by omega))
  exact h.trans orN_m
/-- the piece p fits a free cell -/
def fsw (ri dn pc tn : Nat → Int32) (r c p : Nat) : Bool := (ff (fun q => (ff (fun t => !(flR pc q) && fit ri dn pc tn r c p t q) 0 4).isSome) 0 (r * c)).isSome
theorem y_fitsSomewhere {p : Nat} (hz : Sz τ k r c) (hb : Bd τ k r c) (hp : p < r * c) : f_X11_fitsSomewhere k (nI p) τ = some (b2 (fsw (τ (k + 2)) (τ (k + 3)) (τ (k + 5)) (τ (k + 6)) r c p), τ) := by
  have hrc := hz.rc
  have h := lp_ff (L := fun n i => f_X11_fitsSomewhere_b2 k n (nI p) (nI i) τ) (m := r * c) (p := fun q => (ff (fun t => !(flR (τ (k + 5)) q) && fit (τ (k + 2)) (τ (k + 3)) (τ (k + 5)) (τ (k + 6)) r c p t q) 0 4).isSome) (E := some (0, τ)) (F := fun _ => some (1, τ)) (fun n => by
    show f_X11_fitsSomewhere_b2 k (n + 1) (nI p) (nI (r * c)) τ = _
    simp (disch := omega) only [rdN, wrN, rdZ, wrZ, p_put_eq, call_some, nzN, boN, nI_1, nI_add, pk_mul, lit_4, lit_16, le_T, le_F, lt_T, lt_F, eq_T, eq_F, le_T0, le_F0, lt_F0, lt_T0, eq_T0, eq_F0, eqm_F, up_s2, up_n2, Ev_some, nz_0, nz_1, if_true, if_false, reduceIte, and_true, true_and, and_false, false_and, b2_0, b2_1, Bool.true_eq_false, Bool.false_eq_true, not_true_eq_false, not_false_eq_true, f_X11_fitsSomewhere_b2, y_cells hz]) (fun n q hq => by
    have h2 := lp_ff (L := fun n' t => f_X11_fitsSomewhere_b12 k (f_X11_fitsSomewhere_b2 k n) n' (nI p) (nI q) (nI t) τ) (m := 4) (p := fun t => !(flR (τ (k + 5)) q) && fit (τ (k + 2)) (τ (k + 3)) (τ (k + 5)) (τ (k + 6)) r c p t q) (E := f_X11_fitsSomewhere_b2 k n (nI p) (nI (q + 1)) τ) (F := fun _ => some (1, τ)) (fun n' => by
      show f_X11_fitsSomewhere_b12 k (f_X11_fitsSomewhere_b2 k n) (n' + 1) (nI p) (nI q) (nI 4) τ = _
      simp (disch := omega) only [rdN, wrN, rdZ, wrZ, p_put_eq, call_some, nzN, boN, nI_1, nI_add, pk_mul, lit_4, lit_16, le_T, le_F, lt_T, lt_F, eq_T, eq_F, le_T0, le_F0, lt_F0, lt_T0, eq_T0, eq_F0, eqm_F, up_s2, up_n2, Ev_some, nz_0, nz_1, if_true, if_false, reduceIte, and_true, true_and, and_false, false_and, b2_0, b2_1, Bool.true_eq_false, Bool.false_eq_true, not_true_eq_false, not_false_eq_true, f_X11_fitsSomewhere_b12]) (fun n' t ht => by
      show f_X11_fitsSomewhere_b12 k (f_X11_fitsSomewhere_b2 k n) (n' + 1) (nI p) (nI q) (nI t) τ = if _ then _ else f_X11_fitsSomewhere_b12 k (f_X11_fitsSomewhere_b2 k n) n' (nI p) (nI q) (nI (t + 1)) τ
      simp (disch := omega) only [rdN, wrN, rdZ, wrZ, p_put_eq, call_some, nzN, boN, nI_1, nI_add, pk_mul, lit_4, lit_16, le_T, le_F, lt_T, lt_F, eq_T, eq_F, le_T0, le_F0, lt_F0, lt_T0, eq_T0, eq_F0, eqm_F, up_s2, up_n2, Ev_some, nz_0, nz_1, if_true, if_false, reduceIte, and_true, true_and, and_false, false_and, b2_0, b2_1, Bool.true_eq_false, Bool.false_eq_true, not_true_eq_false, not_false_eq_true, f_X11_fitsSomewhere_b12, y_doesFit hz hb hp ht hq, f_X11_fitsSomewhere_b38, flR]
      by_cases h : τ (k + 5) q < 0
      · have h' : ¬ 0 ≤ τ (k + 5) q := Int32.not_le.mpr h
        cases fit (τ (k + 2)) (τ (k + 3)) (τ (k + 5)) (τ (k + 6)) r c p t q <;> simp [h, h']
      · have h' : 0 ≤ τ (k + 5) q := Int32.not_lt.mp h
        simp [h, h']) fu 0 (by decide) (fu_lt (by decide))
    show f_X11_fitsSomewhere_b2 k (n + 1) (nI p) (nI q) τ = _
    rw [f_X11_fitsSomewhere_b2]
    simp (disch := omega) only [rdN, wrN, rdZ, wrZ, p_put_eq, call_some, nzN, boN, nI_1, nI_add, pk_mul, lit_4, lit_16, le_T, le_F, lt_T, lt_F, eq_T, eq_F, le_T0, le_F0, lt_F0, lt_T0, eq_T0, eq_F0, eqm_F, up_s2, up_n2, Ev_some, nz_0, nz_1, if_true, if_false, reduceIte, and_true, true_and, and_false, false_and, b2_0, b2_1, Bool.true_eq_false, Bool.false_eq_true, not_true_eq_false, not_false_eq_true, y_cells hz]
    refine Eq.trans h2 ?_
    cases ff (fun t => !(flR (τ (k + 5)) q) && fit (τ (k + 2)) (τ (k + 3)) (τ (k + 5)) (τ (k + 6)) r c p t q) 0 (4 - 0) <;> rfl) fu 0 (Nat.zero_le _) (fu_lt (by omega))
  unfold fsw
  refine Eq.trans h ?_
  rw [Nat.sub_zero]
  cases ff (fun q => (ff (fun t => !(flR (τ (k + 5)) q) && fit (τ (k + 2)) (τ (k + 3)) (τ (k + 5)) (τ (k + 6)) r c p t q) 0 4).isSome) 0 (r * c) <;> rfl
def ovr (ri dn pc tn lo : Nat → Int32) (r c p : Nat) : Bool := decide (lo p = 0) && !(laidB pc (r * c) (nI p)) && !(fsw ri dn pc tn r c p)
theorem y_over (hz : Sz τ k r c) (hb : Bd τ k r c) : f_X11_over k τ = some (orN (ff (ovr (τ (k + 2)) (τ (k + 3)) (τ (k + 5)) (τ (k + 6)) (τ (k + 8)) r c) 0 (r * c)), τ) := by
  have hrc := hz.rc
  have h := lp_ff (L := fun n i => f_X11_over_b2 k n (nI i) τ) (m := r * c) (p := ovr (τ (k + 2)) (τ (k + 3)) (τ (k + 5)) (τ (k + 6)) (τ (k + 8)) r c) (E := some (-9, τ)) (F := fun j => some (nI j, τ)) (fun n => by
    show f_X11_over_b2 k (n + 1) (nI (r * c)) τ = _
    simp (disch := omega) only [rdN, wrN, rdZ, wrZ, p_put_eq, call_some, nzN, boN, nI_1, nI_add, pk_mul, lit_4, lit_16, le_T, le_F, lt_T, lt_F, eq_T, eq_F, le_T0, le_F0, lt_F0, lt_T0, eq_T0, eq_F0, eqm_F, up_s2, up_n2, Ev_some, nz_0, nz_1, if_true, if_false, reduceIte, and_true, true_and, and_false, false_and, b2_0, b2_1, Bool.true_eq_false, Bool.false_eq_true, not_true_eq_false, not_false_eq_true, f_X11_over_b2, y_cells hz]) (fun n i hi => by
    show f_X11_over_b2 k (n + 1) (nI i) τ = if _ then _ else f_X11_over_b2 k n (nI (i + 1)) τ
    simp (disch := omega) only [rdN, wrN, rdZ, wrZ, p_put_eq, call_some, nzN, boN, nI_1, nI_add, pk_mul, lit_4, lit_16, le_T, le_F, lt_T, lt_F, eq_T, eq_F, le_T0, le_F0, lt_F0, lt_T0, eq_T0, eq_F0, eqm_F, up_s2, up_n2, Ev_some, nz_0, nz_1, if_true, if_false, reduceIte, and_true, true_and, and_false, false_and, b2_0, b2_1, Bool.true_eq_false, Bool.false_eq_true, not_true_eq_false, not_false_eq_true, f_X11_over_b2, y_cells hz, y_isLaid hz, y_fitsSomewhere hz hb hi, f_X11_over_b37, ovr]
    by_cases h : τ (k + 8) i = 0 <;> by_cases h2 : laidB (τ (k + 5)) (r * c) (nI i) = true <;> by_cases h3 : fsw (τ (k + 2)) (τ (k + 3)) (τ (k + 5)) (τ (k + 6)) r c i = true <;> simp [h, h2, h3]) fu 0 (Nat.zero_le _) (fu_lt (by omega))
  exact h.trans orN_m
end RC
