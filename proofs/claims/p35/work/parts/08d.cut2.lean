/-! the class's Cut, as it is made and changed -/
theorem bs_bk : allG (fun r c p s => match bs r c p s with
  | some q => decide (bs r c q ((s + 2) % 4) = some p)
  | none => true) = true := by decide +kernel
theorem bs_back {r c p s q : Nat} (h1 : 2 ≤ r ∧ r < 5) (h2 : 2 ≤ c ∧ c < 5) (hp : p < r * c) (hs : s < 4) (h : bs r c p s = some q) : bs r c q ((s + 2) % 4) = some p := by
  have := allG_at bs_bk h1 h2 hp hs
  rw [h] at this
  exact of_decide_eq_true this
theorem s4c {s : Nat} (h : s < 4) : s = 0 ∨ s = 1 ∨ s = 2 ∨ s = 3 := by omega
abbrev e1 : Nat → Int32 := fun _ => 1
theorem rc16 {r c : Nat} (h1 : 2 ≤ r ∧ r < 5) (h2 : 2 ≤ c ∧ c < 5) : r * c ≤ 16 := Nat.mul_le_mul (show r ≤ 4 by omega) (show c ≤ 4 by omega)
theorem x_across {σ : Sg} {k r c p s : Nat} (hr : σ k 0 = nI r) (hc : σ k 1 = nI c) (h1 : 2 ≤ r ∧ r < 5) (h2 : 2 ≤ c ∧ c < 5) (hp : p < r * c) (hs : s < 4) : f_X1_neighbourAcross k (nI p) (nI s) σ = some (bsI (bs r c p s), σ) := (e_across hr hc h1 h2 hp hs).eq
theorem x_anew_st {σ : Sg} {k r c p s n : Nat} {R : Int32 → Sg → Rs} {A : Bool} (hr : σ k 0 = nI r) (hc : σ k 1 = nI c) (h1 : 2 ≤ r ∧ r < 5) (h2 : 2 ≤ c ∧ c < 5) (hp : p < r * c) (hs : s < 4) (hA : σ (k + 3) p = b2 A) : f_X1_cutAnew_b44 k R (n + 1) (nI p) (nI s) σ = f_X1_cutAnew_b44 k R n (nI p) (nI (s + 1)) (sg_up (sg_up (sg_up σ (k + 2) (p * 4 + s) (bsI (bs r c p s))) (k + 3) p (b2 (A || (bs r c p s).isNone))) (k + 1) (p * 4 + s) (sdv e1 e1 r c p s)) := by
  have hrc := rc16 h1 h2
  have hx := x_across hr hc h1 h2 hp hs
  rw [f_X1_cutAnew_b44, hx]
  unfold sdv
  cases hb : bs r c p s with
  | none =>
    rcases s4c hs with rfl | rfl | rfl | rfl <;> cases A <;> simp (disch := omega) only [rdN, wrN, rdZ, wrZ, p_put_eq, call_some, nzN, boN, nI_1, nI_add, pk_mul, lit_4, lit_16, le_T, le_F, lt_T, lt_F, eq_T, eq_F, le_T0, le_F0, lt_F0, lt_T0, eq_T0, eq_F0, eqm_F, up_s2, up_n2, Ev_some, nz_0, nz_1, if_true, if_false, reduceIte, and_true, true_and, and_false, false_and, b2_0, b2_1, Bool.true_eq_false, Bool.false_eq_true, not_true_eq_false, not_false_eq_true, f_X1_cutAnew_b71, f_X1_cutAnew_b76, f_X1_cutAnew_b111, f_X1_cutAnew_b116, f_X1_cutAnew_b147, hA, nz_b, bsI, q_1, q_2, Option.isNone_none, Option.isNone_some, Bool.or_true, Bool.or_false, Bool.true_or, Bool.false_or] <;> rfl
  | some q =>
    have hq : q < 2 ^ 31 := by
      have := bs_lt h1 h2 hp hs hb
      omega
    rcases s4c hs with rfl | rfl | rfl | rfl <;> cases A <;> simp (disch := omega) only [rdN, wrN, rdZ, wrZ, p_put_eq, call_some, nzN, boN, nI_1, nI_add, pk_mul, lit_4, lit_16, le_T, le_F, lt_T, lt_F, eq_T, eq_F, le_T0, le_F0, lt_F0, lt_T0, eq_T0, eq_F0, eqm_F, up_s2, up_n2, Ev_some, nz_0, nz_1, if_true, if_false, reduceIte, and_true, true_and, and_false, false_and, b2_0, b2_1, Bool.true_eq_false, Bool.false_eq_true, not_true_eq_false, not_false_eq_true, f_X1_cutAnew_b71, f_X1_cutAnew_b76, f_X1_cutAnew_b111, f_X1_cutAnew_b116, f_X1_cutAnew_b147, hA, nz_b, bsI, q_1, q_2, Option.isNone_none, Option.isNone_some, Bool.or_true, Bool.or_false, Bool.true_or, Bool.false_or] <;> rfl
/-- as far as cell p, side s -/
def Jcut (σ0 υ : Sg) (k r c p s : Nat) : Prop := Fr k (k + 4) σ0 υ ∧ υ k 0 = nI r ∧ υ k 1 = nI c ∧ υ k 2 = nI (r * c) ∧ (∀ p' s', s' < 4 → (p' < p ∨ (p' = p ∧ s' < s)) → υ (k + 2) (p' * 4 + s') = bsI (bs r c p' s') ∧ υ (k + 1) (p' * 4 + s') = sdv e1 e1 r c p' s') ∧ (∀ p', p' < p → υ (k + 3) p' = b2 (rim r c p')) ∧ (∀ p', p' < p → υ (k + 4) p' = 0) ∧ (∀ j, r * c ≤ j → υ (k + 3) j = σ0 (k + 3) j)
theorem x_anew_in {σ0 σ : Sg} {k r c p : Nat} {R : Int32 → Sg → Rs} {Q : Int32 → Sg → Prop} (h1 : 2 ≤ r ∧ r < 5) (h2 : 2 ≤ c ∧ c < 5) (hp : p < r * c) (hJ : Jcut σ0 σ k r c p 0) (h3 : σ (k + 3) p = 0) (h4 : σ (k + 4) p = 0) (hk : ∀ υ, Jcut σ0 υ k r c (p + 1) 0 → Ev (R (nI (p + 1)) υ) Q) : Ev (f_X1_cutAnew_b44 k R fu (nI p) (nI 0) σ) Q := by
  refine lp_ev (L := fun n s υ => f_X1_cutAnew_b44 k R n (nI p) (nI s) υ) (m := 4) (I := fun s υ => Jcut σ0 υ k r c p s ∧ υ (k + 3) p = b2 ((List.range s).any (fun s => (bs r c p s).isNone)) ∧ υ (k + 4) p = 0) (fun n υ h => ?_) (fun n s υ hs h ih => ?_) fu 0 σ (by decide) (fu_lt (by decide)) ⟨hJ, h3, h4⟩
  · show Ev (f_X1_cutAnew_b44 k R (n + 1) (nI p) (nI 4) υ) _
    simp (disch := omega) only [rdN, wrN, rdZ, wrZ, p_put_eq, call_some, nzN, boN, nI_1, nI_add, pk_mul, lit_4, lit_16, le_T, le_F, lt_T, lt_F, eq_T, eq_F, le_T0, le_F0, lt_F0, lt_T0, eq_T0, eq_F0, eqm_F, up_s2, up_n2, Ev_some, nz_0, nz_1, if_true, if_false, reduceIte, and_true, true_and, and_false, false_and, b2_0, b2_1, Bool.true_eq_false, Bool.false_eq_true, not_true_eq_false, not_false_eq_true, f_X1_cutAnew_b44]
    obtain ⟨⟨f, g0, g1, g2, gv, gr, gc, gz⟩, hr, hc⟩ := h
    refine hk υ ⟨f, g0, g1, g2, fun p' s' a b => gv p' s' a (by omega), fun p' a => ?_, fun p' a => ?_, gz⟩
    · rcases Nat.lt_or_ge p' p with q | q
      · exact gr p' q
      · rw [show p' = p by omega]; exact hr
    · rcases Nat.lt_or_ge p' p with q | q
      · exact gc p' q
      · rw [show p' = p by omega]; exact hc
  · show Ev (f_X1_cutAnew_b44 k R (n + 1) (nI p) (nI s) υ) _
    obtain ⟨⟨f, g0, g1, g2, gv, gr, gc, gz⟩, hr, hc⟩ := h
    rw [x_anew_st g0 g1 h1 h2 hp hs hr]
    refine ih _ ⟨⟨((f.up (by omega)).up (by omega)).up (by omega), ?_, ?_, ?_, fun p' s' a b => ?_, fun p' a => ?_, fun p' a => ?_, fun j hj => by simp (disch := omega) only [rdN, wrN, rdZ, wrZ, p_put_eq, call_some, nzN, boN, nI_1, nI_add, pk_mul, lit_4, lit_16, le_T, le_F, lt_T, lt_F, eq_T, eq_F, le_T0, le_F0, lt_F0, lt_T0, eq_T0, eq_F0, eqm_F, up_s2, up_n2, Ev_some, nz_0, nz_1, if_true, if_false, reduceIte, and_true, true_and, and_false, false_and, b2_0, b2_1, Bool.true_eq_false, Bool.false_eq_true, not_true_eq_false, not_false_eq_true, gz j hj]⟩, ?_, ?_⟩
    · simp (disch := omega) only [rdN, wrN, rdZ, wrZ, p_put_eq, call_some, nzN, boN, nI_1, nI_add, pk_mul, lit_4, lit_16, le_T, le_F, lt_T, lt_F, eq_T, eq_F, le_T0, le_F0, lt_F0, lt_T0, eq_T0, eq_F0, eqm_F, up_s2, up_n2, Ev_some, nz_0, nz_1, if_true, if_false, reduceIte, and_true, true_and, and_false, false_and, b2_0, b2_1, Bool.true_eq_false, Bool.false_eq_true, not_true_eq_false, not_false_eq_true, g0]
    · simp (disch := omega) only [rdN, wrN, rdZ, wrZ, p_put_eq, call_some, nzN, boN, nI_1, nI_add, pk_mul, lit_4, lit_16, le_T, le_F, lt_T, lt_F, eq_T, eq_F, le_T0, le_F0, lt_F0, lt_T0, eq_T0, eq_F0, eqm_F, up_s2, up_n2, Ev_some, nz_0, nz_1, if_true, if_false, reduceIte, and_true, true_and, and_false, false_and, b2_0, b2_1, Bool.true_eq_false, Bool.false_eq_true, not_true_eq_false, not_false_eq_true, g1]
    · simp (disch := omega) only [rdN, wrN, rdZ, wrZ, p_put_eq, call_some, nzN, boN, nI_1, nI_add, pk_mul, lit_4, lit_16, le_T, le_F, lt_T, lt_F, eq_T, eq_F, le_T0, le_F0, lt_F0, lt_T0, eq_T0, eq_F0, eqm_F, up_s2, up_n2, Ev_some, nz_0, nz_1, if_true, if_false, reduceIte, and_true, true_and, and_false, false_and, b2_0, b2_1, Bool.true_eq_false, Bool.false_eq_true, not_true_eq_false, not_false_eq_true, g2]
    · by_cases e : p' = p ∧ s' = s
      · obtain ⟨rfl, rfl⟩ := e
        simp (disch := omega) only [rdN, wrN, rdZ, wrZ, p_put_eq, call_some, nzN, boN, nI_1, nI_add, pk_mul, lit_4, lit_16, le_T, le_F, lt_T, lt_F, eq_T, eq_F, le_T0, le_F0, lt_F0, lt_T0, eq_T0, eq_F0, eqm_F, up_s2, up_n2, Ev_some, nz_0, nz_1, if_true, if_false, reduceIte, and_true, true_and, and_false, false_and, b2_0, b2_1, Bool.true_eq_false, Bool.false_eq_true, not_true_eq_false, not_false_eq_true]
      · have := gv p' s' a (by omega)
        simp (disch := omega) only [rdN, wrN, rdZ, wrZ, p_put_eq, call_some, nzN, boN, nI_1, nI_add, pk_mul, lit_4, lit_16, le_T, le_F, lt_T, lt_F, eq_T, eq_F, le_T0, le_F0, lt_F0, lt_T0, eq_T0, eq_F0, eqm_F, up_s2, up_n2, Ev_some, nz_0, nz_1, if_true, if_false, reduceIte, and_true, true_and, and_false, false_and, b2_0, b2_1, Bool.true_eq_false, Bool.false_eq_true, not_true_eq_false, not_false_eq_true, this.1, this.2]
    · simp (disch := omega) only [rdN, wrN, rdZ, wrZ, p_put_eq, call_some, nzN, boN, nI_1, nI_add, pk_mul, lit_4, lit_16, le_T, le_F, lt_T, lt_F, eq_T, eq_F, le_T0, le_F0, lt_F0, lt_T0, eq_T0, eq_F0, eqm_F, up_s2, up_n2, Ev_some, nz_0, nz_1, if_true, if_false, reduceIte, and_true, true_and, and_false, false_and, b2_0, b2_1, Bool.true_eq_false, Bool.false_eq_true, not_true_eq_false, not_false_eq_true, gr p' a]
    · simp (disch := omega) only [rdN, wrN, rdZ, wrZ, p_put_eq, call_some, nzN, boN, nI_1, nI_add, pk_mul, lit_4, lit_16, le_T, le_F, lt_T, lt_F, eq_T, eq_F, le_T0, le_F0, lt_F0, lt_T0, eq_T0, eq_F0, eqm_F, up_s2, up_n2, Ev_some, nz_0, nz_1, if_true, if_false, reduceIte, and_true, true_and, and_false, false_and, b2_0, b2_1, Bool.true_eq_false, Bool.false_eq_true, not_true_eq_false, not_false_eq_true, gc p' a]
    · simp (disch := omega) only [rdN, wrN, rdZ, wrZ, p_put_eq, call_some, nzN, boN, nI_1, nI_add, pk_mul, lit_4, lit_16, le_T, le_F, lt_T, lt_F, eq_T, eq_F, le_T0, le_F0, lt_F0, lt_T0, eq_T0, eq_F0, eqm_F, up_s2, up_n2, Ev_some, nz_0, nz_1, if_true, if_false, reduceIte, and_true, true_and, and_false, false_and, b2_0, b2_1, Bool.true_eq_false, Bool.false_eq_true, not_true_eq_false, not_false_eq_true, List.range_succ, List.any_append, List.any_cons, List.any_nil, Bool.or_false]
    · simp (disch := omega) only [rdN, wrN, rdZ, wrZ, p_put_eq, call_some, nzN, boN, nI_1, nI_add, pk_mul, lit_4, lit_16, le_T, le_F, lt_T, lt_F, eq_T, eq_F, le_T0, le_F0, lt_F0, lt_T0, eq_T0, eq_F0, eqm_F, up_s2, up_n2, Ev_some, nz_0, nz_1, if_true, if_false, reduceIte, and_true, true_and, and_false, false_and, b2_0, b2_1, Bool.true_eq_false, Bool.false_eq_true, not_true_eq_false, not_false_eq_true, hc]
theorem x_cutAnew {σ : Sg} {k r c : Nat} (h1 : 2 ≤ r ∧ r < 5) (h2 : 2 ≤ c ∧ c < 5) : Ev (f_X1_cutAnew k (nI r) (nI c) σ) (fun _ υ => Fr k (k + 4) σ υ ∧ CutOk υ k r c e1 e1 ∧ (∀ p, p < r * c → υ (k + 4) p = 0) ∧ ∀ j, r * c ≤ j → υ (k + 3) j = σ (k + 3) j) := by
  have hrc := rc16 h1 h2
  unfold f_X1_cutAnew
  simp (disch := omega) only [rdN, wrN, rdZ, wrZ, p_put_eq, call_some, nzN, boN, nI_1, nI_add, pk_mul, lit_4, lit_16, le_T, le_F, lt_T, lt_F, eq_T, eq_F, le_T0, le_F0, lt_F0, lt_T0, eq_T0, eq_F0, eqm_F, up_s2, up_n2, Ev_some, nz_0, nz_1, if_true, if_false, reduceIte, and_true, true_and, and_false, false_and, b2_0, b2_1, Bool.true_eq_false, Bool.false_eq_true, not_true_eq_false, not_false_eq_true]
  refine lp_ev (L := fun n p υ => f_X1_cutAnew_b19 k n (nI p) υ) (m := r * c) (I := fun p υ => Jcut σ υ k r c p 0) (fun n υ h => ?_) (fun n p υ hp h ih => ?_) fu 0 _ (Nat.zero_le _) (fu_lt (by omega)) ⟨((Fr.refl.up (by omega)).up (by omega)).up (by omega), ?_, ?_, ?_, fun p' s' a b => by omega, fun p' a => by omega, fun p' a => by omega, fun j hj => by simp (disch := omega) only [rdN, wrN, rdZ, wrZ, p_put_eq, call_some, nzN, boN, nI_1, nI_add, pk_mul, lit_4, lit_16, le_T, le_F, lt_T, lt_F, eq_T, eq_F, le_T0, le_F0, lt_F0, lt_T0, eq_T0, eq_F0, eqm_F, up_s2, up_n2, Ev_some, nz_0, nz_1, if_true, if_false, reduceIte, and_true, true_and, and_false, false_and, b2_0, b2_1, Bool.true_eq_false, Bool.false_eq_true, not_true_eq_false, not_false_eq_true]⟩
  · show Ev (f_X1_cutAnew_b19 k (n + 1) (nI (r * c)) υ) _
    obtain ⟨f, g0, g1, g2, gv, gr, gc, gz⟩ := h
    simp (disch := omega) only [rdN, wrN, rdZ, wrZ, p_put_eq, call_some, nzN, boN, nI_1, nI_add, pk_mul, lit_4, lit_16, le_T, le_F, lt_T, lt_F, eq_T, eq_F, le_T0, le_F0, lt_F0, lt_T0, eq_T0, eq_F0, eqm_F, up_s2, up_n2, Ev_some, nz_0, nz_1, if_true, if_false, reduceIte, and_true, true_and, and_false, false_and, b2_0, b2_1, Bool.true_eq_false, Bool.false_eq_true, not_true_eq_false, not_false_eq_true, f_X1_cutAnew_b19, g2]
    exact ⟨f, ⟨g0, g1, g2, h1, h2, fun p a s b => gv p s b (by omega), gr⟩, gc, gz⟩
  · show Ev (f_X1_cutAnew_b19 k (n + 1) (nI p) υ) _
    obtain ⟨f, g0, g1, g2, gv, gr, gc, gz⟩ := h
    simp (disch := omega) only [rdN, wrN, rdZ, wrZ, p_put_eq, call_some, nzN, boN, nI_1, nI_add, pk_mul, lit_4, lit_16, le_T, le_F, lt_T, lt_F, eq_T, eq_F, le_T0, le_F0, lt_F0, lt_T0, eq_T0, eq_F0, eqm_F, up_s2, up_n2, Ev_some, nz_0, nz_1, if_true, if_false, reduceIte, and_true, true_and, and_false, false_and, b2_0, b2_1, Bool.true_eq_false, Bool.false_eq_true, not_true_eq_false, not_false_eq_true, f_X1_cutAnew_b19, g2]
    refine x_anew_in (σ0 := σ) h1 h2 hp ⟨(f.up (by omega)).up (by omega), ?_, ?_, ?_, fun p' s' a b => ?_, fun p' a => ?_, fun p' a => ?_, fun j hj => by simp (disch := omega) only [rdN, wrN, rdZ, wrZ, p_put_eq, call_some, nzN, boN, nI_1, nI_add, pk_mul, lit_4, lit_16, le_T, le_F, lt_T, lt_F, eq_T, eq_F, le_T0, le_F0, lt_F0, lt_T0, eq_T0, eq_F0, eqm_F, up_s2, up_n2, Ev_some, nz_0, nz_1, if_true, if_false, reduceIte, and_true, true_and, and_false, false_and, b2_0, b2_1, Bool.true_eq_false, Bool.false_eq_true, not_true_eq_false, not_false_eq_true, gz j hj]⟩ ?_ ?_ (fun φ hφ => ih φ hφ)
    · simp (disch := omega) only [rdN, wrN, rdZ, wrZ, p_put_eq, call_some, nzN, boN, nI_1, nI_add, pk_mul, lit_4, lit_16, le_T, le_F, lt_T, lt_F, eq_T, eq_F, le_T0, le_F0, lt_F0, lt_T0, eq_T0, eq_F0, eqm_F, up_s2, up_n2, Ev_some, nz_0, nz_1, if_true, if_false, reduceIte, and_true, true_and, and_false, false_and, b2_0, b2_1, Bool.true_eq_false, Bool.false_eq_true, not_true_eq_false, not_false_eq_true, g0]
    · simp (disch := omega) only [rdN, wrN, rdZ, wrZ, p_put_eq, call_some, nzN, boN, nI_1, nI_add, pk_mul, lit_4, lit_16, le_T, le_F, lt_T, lt_F, eq_T, eq_F, le_T0, le_F0, lt_F0, lt_T0, eq_T0, eq_F0, eqm_F, up_s2, up_n2, Ev_some, nz_0, nz_1, if_true, if_false, reduceIte, and_true, true_and, and_false, false_and, b2_0, b2_1, Bool.true_eq_false, Bool.false_eq_true, not_true_eq_false, not_false_eq_true, g1]
    · simp (disch := omega) only [rdN, wrN, rdZ, wrZ, p_put_eq, call_some, nzN, boN, nI_1, nI_add, pk_mul, lit_4, lit_16, le_T, le_F, lt_T, lt_F, eq_T, eq_F, le_T0, le_F0, lt_F0, lt_T0, eq_T0, eq_F0, eqm_F, up_s2, up_n2, Ev_some, nz_0, nz_1, if_true, if_false, reduceIte, and_true, true_and, and_false, false_and, b2_0, b2_1, Bool.true_eq_false, Bool.false_eq_true, not_true_eq_false, not_false_eq_true, g2]
    · have := gv p' s' a (by omega)
      simp (disch := omega) only [rdN, wrN, rdZ, wrZ, p_put_eq, call_some, nzN, boN, nI_1, nI_add, pk_mul, lit_4, lit_16, le_T, le_F, lt_T, lt_F, eq_T, eq_F, le_T0, le_F0, lt_F0, lt_T0, eq_T0, eq_F0, eqm_F, up_s2, up_n2, Ev_some, nz_0, nz_1, if_true, if_false, reduceIte, and_true, true_and, and_false, false_and, b2_0, b2_1, Bool.true_eq_false, Bool.false_eq_true, not_true_eq_false, not_false_eq_true, this.1, this.2]
    · simp (disch := omega) only [rdN, wrN, rdZ, wrZ, p_put_eq, call_some, nzN, boN, nI_1, nI_add, pk_mul, lit_4, lit_16, le_T, le_F, lt_T, lt_F, eq_T, eq_F, le_T0, le_F0, lt_F0, lt_T0, eq_T0, eq_F0, eqm_F, up_s2, up_n2, Ev_some, nz_0, nz_1, if_true, if_false, reduceIte, and_true, true_and, and_false, false_and, b2_0, b2_1, Bool.true_eq_false, Bool.false_eq_true, not_true_eq_false, not_false_eq_true, gr p' a]
    · simp (disch := omega) only [rdN, wrN, rdZ, wrZ, p_put_eq, call_some, nzN, boN, nI_1, nI_add, pk_mul, lit_4, lit_16, le_T, le_F, lt_T, lt_F, eq_T, eq_F, le_T0, le_F0, lt_F0, lt_T0, eq_T0, eq_F0, eqm_F, up_s2, up_n2, Ev_some, nz_0, nz_1, if_true, if_false, reduceIte, and_true, true_and, and_false, false_and, b2_0, b2_1, Bool.true_eq_false, Bool.false_eq_true, not_true_eq_false, not_false_eq_true, gc p' a]
    · simp (disch := omega) only [rdN, wrN, rdZ, wrZ, p_put_eq, call_some, nzN, boN, nI_1, nI_add, pk_mul, lit_4, lit_16, le_T, le_F, lt_T, lt_F, eq_T, eq_F, le_T0, le_F0, lt_F0, lt_T0, eq_T0, eq_F0, eqm_F, up_s2, up_n2, Ev_some, nz_0, nz_1, if_true, if_false, reduceIte, and_true, true_and, and_false, false_and, b2_0, b2_1, Bool.true_eq_false, Bool.false_eq_true, not_true_eq_false, not_false_eq_true]
    · simp (disch := omega) only [rdN, wrN, rdZ, wrZ, p_put_eq, call_some, nzN, boN, nI_1, nI_add, pk_mul, lit_4, lit_16, le_T, le_F, lt_T, lt_F, eq_T, eq_F, le_T0, le_F0, lt_F0, lt_T0, eq_T0, eq_F0, eqm_F, up_s2, up_n2, Ev_some, nz_0, nz_1, if_true, if_false, reduceIte, and_true, true_and, and_false, false_and, b2_0, b2_1, Bool.true_eq_false, Bool.false_eq_true, not_true_eq_false, not_false_eq_true]
  · simp (disch := omega) only [rdN, wrN, rdZ, wrZ, p_put_eq, call_some, nzN, boN, nI_1, nI_add, pk_mul, lit_4, lit_16, le_T, le_F, lt_T, lt_F, eq_T, eq_F, le_T0, le_F0, lt_F0, lt_T0, eq_T0, eq_F0, eqm_F, up_s2, up_n2, Ev_some, nz_0, nz_1, if_true, if_false, reduceIte, and_true, true_and, and_false, false_and, b2_0, b2_1, Bool.true_eq_false, Bool.false_eq_true, not_true_eq_false, not_false_eq_true]
  · simp (disch := omega) only [rdN, wrN, rdZ, wrZ, p_put_eq, call_some, nzN, boN, nI_1, nI_add, pk_mul, lit_4, lit_16, le_T, le_F, lt_T, lt_F, eq_T, eq_F, le_T0, le_F0, lt_F0, lt_T0, eq_T0, eq_F0, eqm_F, up_s2, up_n2, Ev_some, nz_0, nz_1, if_true, if_false, reduceIte, and_true, true_and, and_false, false_and, b2_0, b2_1, Bool.true_eq_false, Bool.false_eq_true, not_true_eq_false, not_false_eq_true]
  · simp (disch := omega) only [rdN, wrN, rdZ, wrZ, p_put_eq, call_some, nzN, boN, nI_1, nI_add, pk_mul, lit_4, lit_16, le_T, le_F, lt_T, lt_F, eq_T, eq_F, le_T0, le_F0, lt_F0, lt_T0, eq_T0, eq_F0, eqm_F, up_s2, up_n2, Ev_some, nz_0, nz_1, if_true, if_false, reduceIte, and_true, true_and, and_false, false_and, b2_0, b2_1, Bool.true_eq_false, Bool.false_eq_true, not_true_eq_false, not_false_eq_true]
/-- a function changed at one place -/
def ut (f : Nat → Int32) (p : Nat) (v : Int32) : Nat → Int32 := fun x => if x = p then v else f x
theorem ut_s {f : Nat → Int32} {p : Nat} {v : Int32} : ut f p v p = v := if_pos rfl
theorem ut_n {f : Nat → Int32} {p x : Nat} {v : Int32} (h : ¬ x = p) : ut f p v x = f x := if_neg h
theorem sdv_R {ri dn : Nat → Int32} {r c p q p' s' : Nat} {v : Int32} (h1 : 2 ≤ r ∧ r < 5) (h2 : 2 ≤ c ∧ c < 5) (hp : p < r * c) (hq : bs r c p 1 = some q) (hp' : p' < r * c) (hs' : s' < 4) : sdv (ut ri p v) dn r c p' s' = if p' = q ∧ s' = 3 then -v else if p' = p ∧ s' = 1 then v else sdv ri dn r c p' s' := by
  have hb := bs_back h1 h2 hp (by decide) hq
  have hql := bs_lt h1 h2 hp (by decide) hq
  unfold sdv
  rcases s4c hs' with rfl | rfl | rfl | rfl
  · cases bs r c p' 0 <;> simp
  · by_cases e : p' = p
    · subst e; rw [hq]; simp [ut]
    · cases bs r c p' 1 <;> simp [ut, e]
  · cases bs r c p' 2 <;> simp
  · by_cases e : p' = q
    · subst e; rw [show bs r c p' 3 = some p from hb]; simp [ut]
    · cases hb3 : bs r c p' 3 with
      | none => simp [e]
      | some o =>
        have : ¬ o = p := fun e2 => by
          have b3 := bs_back h1 h2 hp' (by decide) hb3
          rw [e2] at b3
          have : bs r c p 1 = some p' := b3
          rw [hq] at this
          exact e (Option.some.inj this).symm
        simp [ut, e, this]
theorem sdv_D {ri dn : Nat → Int32} {r c p q p' s' : Nat} {v : Int32} (h1 : 2 ≤ r ∧ r < 5) (h2 : 2 ≤ c ∧ c < 5) (hp : p < r * c) (hq : bs r c p 2 = some q) (hp' : p' < r * c) (hs' : s' < 4) : sdv ri (ut dn p v) r c p' s' = if p' = q ∧ s' = 0 then -v else if p' = p ∧ s' = 2 then v else sdv ri dn r c p' s' := by
  have hb := bs_back h1 h2 hp (by decide) hq
  have hql := bs_lt h1 h2 hp (by decide) hq
  unfold sdv
  rcases s4c hs' with rfl | rfl | rfl | rfl
  · by_cases e : p' = q
    · subst e; rw [show bs r c p' 0 = some p from hb]; simp [ut]
    · cases hb3 : bs r c p' 0 with
      | none => simp [e]
      | some o =>
        have : ¬ o = p := fun e2 => by
          have b3 := bs_back h1 h2 hp' (by decide) hb3
          rw [e2] at b3
          have : bs r c p 2 = some p' := b3
          rw [hq] at this
          exact e (Option.some.inj this).symm
        simp [ut, e, this]
  · cases bs r c p' 1 <;> simp
  · by_cases e : p' = p
    · subst e; rw [hq]; simp [ut]
    · cases bs r c p' 2 <;> simp [ut, e]
  · cases bs r c p' 3 <;> simp
theorem x_setR {σ : Sg} {k r c p q : Nat} {ri dn : Nat → Int32} {v : Int32} (hz : CutOk σ k r c ri dn) (hp : p < r * c) (hq : bs r c p 1 = some q) : Ev (f_X1_setEdge k (nI p) (nI 1) v σ) (fun _ υ => Fr (k + 1) (k + 1) σ υ ∧ CutOk υ k r c (ut ri p v) dn) := by
  have hrc := hz.rc
  obtain ⟨g0, g1, g2, h1, h2, gv, gr⟩ := hz
  have hql := bs_lt h1 h2 hp (by decide) hq
  have e3 : nI 1 + 2 - (nI 1 + 2) / nI 4 * nI 4 = nI 3 := by decide
  unfold f_X1_setEdge f_X1_beside
  simp (disch := omega) only [rdN, wrN, rdZ, wrZ, p_put_eq, call_some, nzN, boN, nI_1, nI_add, pk_mul, lit_4, lit_16, le_T, le_F, lt_T, lt_F, eq_T, eq_F, le_T0, le_F0, lt_F0, lt_T0, eq_T0, eq_F0, eqm_F, up_s2, up_n2, Ev_some, nz_0, nz_1, if_true, if_false, reduceIte, and_true, true_and, and_false, false_and, b2_0, b2_1, Bool.true_eq_false, Bool.false_eq_true, not_true_eq_false, not_false_eq_true, (gv p hp 1 (by decide)).1, hq, bsI, e3]
  refine ⟨(Fr.refl.up (by omega)).up (by omega), ?_, ?_, ?_, h1, h2, fun p' hp' s' hs' => ⟨?_, ?_⟩, fun p' hp' => ?_⟩
  · simp (disch := omega) only [rdN, wrN, rdZ, wrZ, p_put_eq, call_some, nzN, boN, nI_1, nI_add, pk_mul, lit_4, lit_16, le_T, le_F, lt_T, lt_F, eq_T, eq_F, le_T0, le_F0, lt_F0, lt_T0, eq_T0, eq_F0, eqm_F, up_s2, up_n2, Ev_some, nz_0, nz_1, if_true, if_false, reduceIte, and_true, true_and, and_false, false_and, b2_0, b2_1, Bool.true_eq_false, Bool.false_eq_true, not_true_eq_false, not_false_eq_true, g0]
  · simp (disch := omega) only [rdN, wrN, rdZ, wrZ, p_put_eq, call_some, nzN, boN, nI_1, nI_add, pk_mul, lit_4, lit_16, le_T, le_F, lt_T, lt_F, eq_T, eq_F, le_T0, le_F0, lt_F0, lt_T0, eq_T0, eq_F0, eqm_F, up_s2, up_n2, Ev_some, nz_0, nz_1, if_true, if_false, reduceIte, and_true, true_and, and_false, false_and, b2_0, b2_1, Bool.true_eq_false, Bool.false_eq_true, not_true_eq_false, not_false_eq_true, g1]
  · simp (disch := omega) only [rdN, wrN, rdZ, wrZ, p_put_eq, call_some, nzN, boN, nI_1, nI_add, pk_mul, lit_4, lit_16, le_T, le_F, lt_T, lt_F, eq_T, eq_F, le_T0, le_F0, lt_F0, lt_T0, eq_T0, eq_F0, eqm_F, up_s2, up_n2, Ev_some, nz_0, nz_1, if_true, if_false, reduceIte, and_true, true_and, and_false, false_and, b2_0, b2_1, Bool.true_eq_false, Bool.false_eq_true, not_true_eq_false, not_false_eq_true, g2]
  · simp (disch := omega) only [rdN, wrN, rdZ, wrZ, p_put_eq, call_some, nzN, boN, nI_1, nI_add, pk_mul, lit_4, lit_16, le_T, le_F, lt_T, lt_F, eq_T, eq_F, le_T0, le_F0, lt_F0, lt_T0, eq_T0, eq_F0, eqm_F, up_s2, up_n2, Ev_some, nz_0, nz_1, if_true, if_false, reduceIte, and_true, true_and, and_false, false_and, b2_0, b2_1, Bool.true_eq_false, Bool.false_eq_true, not_true_eq_false, not_false_eq_true, (gv p' hp' s' hs').1]
  · rw [sdv_R h1 h2 hp hq hp' hs']
    by_cases a : p' = q ∧ s' = 3
    · rw [if_pos a, up_s2 (by omega)]
    · rw [if_neg a, up_n2 (by omega)]
      by_cases b : p' = p ∧ s' = 1
      · rw [if_pos b, up_s2 (by omega)]
      · rw [if_neg b, up_n2 (by omega)]
        exact (gv p' hp' s' hs').2
  · simp (disch := omega) only [rdN, wrN, rdZ, wrZ, p_put_eq, call_some, nzN, boN, nI_1, nI_add, pk_mul, lit_4, lit_16, le_T, le_F, lt_T, lt_F, eq_T, eq_F, le_T0, le_F0, lt_F0, lt_T0, eq_T0, eq_F0, eqm_F, up_s2, up_n2, Ev_some, nz_0, nz_1, if_true, if_false, reduceIte, and_true, true_and, and_false, false_and, b2_0, b2_1, Bool.true_eq_false, Bool.false_eq_true, not_true_eq_false, not_false_eq_true, gr p' hp']
theorem x_setD {σ : Sg} {k r c p q : Nat} {ri dn : Nat → Int32} {v : Int32} (hz : CutOk σ k r c ri dn) (hp : p < r * c) (hq : bs r c p 2 = some q) : Ev (f_X1_setEdge k (nI p) (nI 2) v σ) (fun _ υ => Fr (k + 1) (k + 1) σ υ ∧ CutOk υ k r c ri (ut dn p v)) := by
  have hrc := hz.rc
  obtain ⟨g0, g1, g2, h1, h2, gv, gr⟩ := hz
  have hql := bs_lt h1 h2 hp (by decide) hq
  have e3 : nI 2 + 2 - (nI 2 + 2) / nI 4 * nI 4 = nI 0 := by decide
  unfold f_X1_setEdge f_X1_beside
  simp (disch := omega) only [rdN, wrN, rdZ, wrZ, p_put_eq, call_some, nzN, boN, nI_1, nI_add, pk_mul, lit_4, lit_16, le_T, le_F, lt_T, lt_F, eq_T, eq_F, le_T0, le_F0, lt_F0, lt_T0, eq_T0, eq_F0, eqm_F, up_s2, up_n2, Ev_some, nz_0, nz_1, if_true, if_false, reduceIte, and_true, true_and, and_false, false_and, b2_0, b2_1, Bool.true_eq_false, Bool.false_eq_true, not_true_eq_false, not_false_eq_true, (gv p hp 2 (by decide)).1, hq, bsI, e3]
  refine ⟨(Fr.refl.up (by omega)).up (by omega), ?_, ?_, ?_, h1, h2, fun p' hp' s' hs' => ⟨?_, ?_⟩, fun p' hp' => ?_⟩
  · simp (disch := omega) only [rdN, wrN, rdZ, wrZ, p_put_eq, call_some, nzN, boN, nI_1, nI_add, pk_mul, lit_4, lit_16, le_T, le_F, lt_T, lt_F, eq_T, eq_F, le_T0, le_F0, lt_F0, lt_T0, eq_T0, eq_F0, eqm_F, up_s2, up_n2, Ev_some, nz_0, nz_1, if_true, if_false, reduceIte, and_true, true_and, and_false, false_and, b2_0, b2_1, Bool.true_eq_false, Bool.false_eq_true, not_true_eq_false, not_false_eq_true, g0]
  · simp (disch := omega) only [rdN, wrN, rdZ, wrZ, p_put_eq, call_some, nzN, boN, nI_1, nI_add, pk_mul, lit_4, lit_16, le_T, le_F, lt_T, lt_F, eq_T, eq_F, le_T0, le_F0, lt_F0, lt_T0, eq_T0, eq_F0, eqm_F, up_s2, up_n2, Ev_some, nz_0, nz_1, if_true, if_false, reduceIte, and_true, true_and, and_false, false_and, b2_0, b2_1, Bool.true_eq_false, Bool.false_eq_true, not_true_eq_false, not_false_eq_true, g1]
  · simp (disch := omega) only [rdN, wrN, rdZ, wrZ, p_put_eq, call_some, nzN, boN, nI_1, nI_add, pk_mul, lit_4, lit_16, le_T, le_F, lt_T, lt_F, eq_T, eq_F, le_T0, le_F0, lt_F0, lt_T0, eq_T0, eq_F0, eqm_F, up_s2, up_n2, Ev_some, nz_0, nz_1, if_true, if_false, reduceIte, and_true, true_and, and_false, false_and, b2_0, b2_1, Bool.true_eq_false, Bool.false_eq_true, not_true_eq_false, not_false_eq_true, g2]
  · simp (disch := omega) only [rdN, wrN, rdZ, wrZ, p_put_eq, call_some, nzN, boN, nI_1, nI_add, pk_mul, lit_4, lit_16, le_T, le_F, lt_T, lt_F, eq_T, eq_F, le_T0, le_F0, lt_F0, lt_T0, eq_T0, eq_F0, eqm_F, up_s2, up_n2, Ev_some, nz_0, nz_1, if_true, if_false, reduceIte, and_true, true_and, and_false, false_and, b2_0, b2_1, Bool.true_eq_false, Bool.false_eq_true, not_true_eq_false, not_false_eq_true, (gv p' hp' s' hs').1]
  · rw [sdv_D h1 h2 hp hq hp' hs']
    by_cases a : p' = q ∧ s' = 0
    · rw [if_pos a, up_s2 (by omega)]
    · rw [if_neg a, up_n2 (by omega)]
      by_cases b : p' = p ∧ s' = 2
      · rw [if_pos b, up_s2 (by omega)]
      · rw [if_neg b, up_n2 (by omega)]
        exact (gv p' hp' s' hs').2
  · simp (disch := omega) only [rdN, wrN, rdZ, wrZ, p_put_eq, call_some, nzN, boN, nI_1, nI_add, pk_mul, lit_4, lit_16, le_T, le_F, lt_T, lt_F, eq_T, eq_F, le_T0, le_F0, lt_F0, lt_T0, eq_T0, eq_F0, eqm_F, up_s2, up_n2, Ev_some, nz_0, nz_1, if_true, if_false, reduceIte, and_true, true_and, and_false, false_and, b2_0, b2_1, Bool.true_eq_false, Bool.false_eq_true, not_true_eq_false, not_false_eq_true, gr p' hp']
