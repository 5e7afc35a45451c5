/-! the work: marks, what is chosen -/
/-- a side's digit -/
theorem dig {v : Int32} (h : v = 0 ∨ EdV v) : ∃ d : Nat, d < 19 ∧ v + 9 = nI d := by
  rcases h with rfl | ⟨j, j1, j9, rfl | rfl⟩
  · exact ⟨9, by decide, rfl⟩
  · exact ⟨j + 9, by omega, nI_add j 9⟩
  · refine ⟨9 - j, by omega, ?_⟩
    have key : ∀ j, j < 10 → -(nI j) + 9 = nI (9 - j) := by decide +kernel
    exact key j (by omega)
theorem dig_s {ri dn : Nat → Int32} {r c p s : Nat} (h1 : 2 ≤ r ∧ r < 5) (h2 : 2 ≤ c ∧ c < 5) (he : Ed ri dn) (hp : p < r * c) (hs : s < 4) : ∃ d : Nat, d < 19 ∧ sdv ri dn r c p s + 9 = nI d := by
  rcases sdv_ed h1 h2 he hp hs with ⟨-, b⟩ | ⟨-, b⟩
  · exact dig (.inl b)
  · exact dig (.inr b)
theorem cod_d {ri dn : Nat → Int32} {r c p t : Nat} (h1 : 2 ≤ r ∧ r < 5) (h2 : 2 ≤ c ∧ c < 5) (he : Ed ri dn) (hp : p < r * c) : ∃ d0 d1 d2 d3 : Nat, d0 < 19 ∧ d1 < 19 ∧ d2 < 19 ∧ d3 < 19 ∧ codV 19 ri dn r c p t = nI (((d0 * 19 + d1) * 19 + d2) * 19 + d3) ∧ codV 20 ri dn r c p t = nI (((d0 * 20 + d1) * 20 + d2) * 20 + d3) := by
  have m4 : ∀ n, n % 4 < 4 := fun n => Nat.mod_lt _ (by decide)
  obtain ⟨d0, l0, e0⟩ := dig_s h1 h2 he hp (m4 (0 + 4 - t))
  obtain ⟨d1, l1, e1⟩ := dig_s h1 h2 he hp (m4 (1 + 4 - t))
  obtain ⟨d2, l2, e2⟩ := dig_s h1 h2 he hp (m4 (2 + 4 - t))
  obtain ⟨d3, l3, e3⟩ := dig_s h1 h2 he hp (m4 (3 + 4 - t))
  refine ⟨d0, d1, d2, d3, l0, l1, l2, l3, ?_, ?_⟩
  · unfold codV
    rw [show (19 : Int32) = nI 19 from rfl, Int32.add_assoc (0 * nI 19), e0, Int32.add_assoc ((0 * nI 19 + nI d0) * nI 19), e1, Int32.add_assoc (((0 * nI 19 + nI d0) * nI 19 + nI d1) * nI 19), e2, Int32.add_assoc ((((0 * nI 19 + nI d0) * nI 19 + nI d1) * nI 19 + nI d2) * nI 19), e3, L0]
    simp only [pk_mul, nI_add, Nat.zero_mul, Nat.zero_add]
  · unfold codV
    rw [show (20 : Int32) = nI 20 from rfl, Int32.add_assoc (0 * nI 20), e0, Int32.add_assoc ((0 * nI 20 + nI d0) * nI 20), e1, Int32.add_assoc (((0 * nI 20 + nI d0) * nI 20 + nI d1) * nI 20), e2, Int32.add_assoc ((((0 * nI 20 + nI d0) * nI 20 + nI d1) * nI 20 + nI d2) * nI 20), e3, L0]
    simp only [pk_mul, nI_add, Nat.zero_mul, Nat.zero_add]
/-- alike by one factor, alike by the other -/
theorem cod_eq {ri dn : Nat → Int32} {r c p t p' t' : Nat} (h1 : 2 ≤ r ∧ r < 5) (h2 : 2 ≤ c ∧ c < 5) (he : Ed ri dn) (hp : p < r * c) (hp' : p' < r * c) : (codV 19 ri dn r c p t = codV 19 ri dn r c p' t') ↔ (codV 20 ri dn r c p t = codV 20 ri dn r c p' t') := by
  obtain ⟨d0, d1, d2, d3, l0, l1, l2, l3, a, b⟩ := cod_d (t := t) h1 h2 he hp
  obtain ⟨f0, f1, f2, f3, m0, m1, m2, m3, a', b'⟩ := cod_d (t := t') h1 h2 he hp'
  rw [a, b, a', b', nI_eq (by omega) (by omega), nI_eq (by omega) (by omega)]
  constructor
  · intro h
    have e0 : d0 = f0 := by omega
    have e1 : d1 = f1 := by omega
    have e2 : d2 = f2 := by omega
    have e3 : d3 = f3 := by omega
    rw [e0, e1, e2, e3]
  · intro h
    have e0 : d0 = f0 := by omega
    have e1 : d1 = f1 := by omega
    have e2 : d2 = f2 := by omega
    have e3 : d3 = f3 := by omega
    rw [e0, e1, e2, e3]
theorem x_isMarked {σ : Sg} {k r c p t mk : Nat} {ri dn : Nat → Int32} (hz : CutOk σ (k + 2) r c ri dn) (hp : p < r * c) (ht : t < 4) (hm : σ k 5 = nI mk) (h64 : mk ≤ 64) : f_X9_isMarked k (nI p) (nI t) σ = some (b2 (ff (fun j => decide (σ (k + 18) j = codV 19 ri dn r c p t)) 0 mk).isSome, σ) := by
  have h := lp_ff (L := fun n j => f_X9_isMarked_b16 k n (codV 19 ri dn r c p t) (nI j) σ) (m := mk) (p := fun j => decide (σ (k + 18) j = codV 19 ri dn r c p t)) (E := some (0, σ)) (F := fun _ => some (1, σ)) (fun n => by
    show f_X9_isMarked_b16 k (n + 1) _ (nI mk) σ = _
    rw [f_X9_isMarked_b16, hm]
    simp (disch := omega) only [rdN, wrN, rdZ, wrZ, p_put_eq, call_some, nzN, boN, nI_1, nI_add, pk_mul, lit_4, lit_16, le_T, le_F, lt_T, lt_F, eq_T, eq_F, le_T0, le_F0, lt_F0, lt_T0, eq_T0, eq_F0, eqm_F, up_s2, up_n2, Ev_some, nz_0, nz_1, if_true, if_false, reduceIte, and_true, true_and, and_false, false_and, b2_0, b2_1, Bool.true_eq_false, Bool.false_eq_true, not_true_eq_false, not_false_eq_true]) (fun n j hj => by
    show f_X9_isMarked_b16 k (n + 1) _ (nI j) σ = if _ then _ else f_X9_isMarked_b16 k n _ (nI (j + 1)) σ
    rw [f_X9_isMarked_b16, hm]
    simp (disch := omega) only [rdN, wrN, rdZ, wrZ, p_put_eq, call_some, nzN, boN, nI_1, nI_add, pk_mul, lit_4, lit_16, le_T, le_F, lt_T, lt_F, eq_T, eq_F, le_T0, le_F0, lt_F0, lt_T0, eq_T0, eq_F0, eqm_F, up_s2, up_n2, Ev_some, nz_0, nz_1, if_true, if_false, reduceIte, and_true, true_and, and_false, false_and, b2_0, b2_1, Bool.true_eq_false, Bool.false_eq_true, not_true_eq_false, not_false_eq_true, decide_eq_true_eq]) fu 0 (Nat.zero_le _) (fu_lt (by omega))
  unfold f_X9_isMarked
  rw [show f_X1_codeOf (k + 1 + 1) (nI p) (nI t) σ = _ from x_codeOf hz hp ht, call_some]
  refine Eq.trans h ?_
  rw [Nat.sub_zero]
  cases ff (fun j => decide (σ (k + 18) j = codV 19 ri dn r c p t)) 0 mk <;> rfl
theorem y_hasFailed {τ : Sg} {k mf : Nat} {x : Int32} (hm : τ k 36 = nI mf) (h64 : mf ≤ 64) : f_X11_hasFailed k x τ = some (b2 (ff (fun j => decide (τ (k + 22) j = x)) 0 mf).isSome, τ) := by
  have h := lp_ff (L := fun n j => f_X11_hasFailed_b2 k n x (nI j) τ) (m := mf) (p := fun j => decide (τ (k + 22) j = x)) (E := some (0, τ)) (F := fun _ => some (1, τ)) (fun n => by
    show f_X11_hasFailed_b2 k (n + 1) x (nI mf) τ = _
    rw [f_X11_hasFailed_b2, hm]
    simp (disch := omega) only [rdN, wrN, rdZ, wrZ, p_put_eq, call_some, nzN, boN, nI_1, nI_add, pk_mul, lit_4, lit_16, le_T, le_F, lt_T, lt_F, eq_T, eq_F, le_T0, le_F0, lt_F0, lt_T0, eq_T0, eq_F0, eqm_F, up_s2, up_n2, Ev_some, nz_0, nz_1, if_true, if_false, reduceIte, and_true, true_and, and_false, false_and, b2_0, b2_1, Bool.true_eq_false, Bool.false_eq_true, not_true_eq_false, not_false_eq_true]) (fun n j hj => by
    show f_X11_hasFailed_b2 k (n + 1) x (nI j) τ = if _ then _ else f_X11_hasFailed_b2 k n x (nI (j + 1)) τ
    rw [f_X11_hasFailed_b2, hm]
    simp (disch := omega) only [rdN, wrN, rdZ, wrZ, p_put_eq, call_some, nzN, boN, nI_1, nI_add, pk_mul, lit_4, lit_16, le_T, le_F, lt_T, lt_F, eq_T, eq_F, le_T0, le_F0, lt_F0, lt_T0, eq_T0, eq_F0, eqm_F, up_s2, up_n2, Ev_some, nz_0, nz_1, if_true, if_false, reduceIte, and_true, true_and, and_false, false_and, b2_0, b2_1, Bool.true_eq_false, Bool.false_eq_true, not_true_eq_false, not_false_eq_true, decide_eq_true_eq]) fu 0 (Nat.zero_le _) (fu_lt (by omega))
  refine Eq.trans h ?_
  rw [Nat.sub_zero]
  cases ff (fun j => decide (τ (k + 22) j = x)) 0 mf <;> rfl
theorem x_isChosen {σ : Sg} {k r c u p q : Nat} {ri dn co : Nat → Int32} (hz : CutOk σ (k + 2) r c ri dn) (he : Ed ri dn) (hc : ∀ p, p < r * c → σ (k + 6) p = co p) (hu : σ k 3 = nI u) (hu5 : u < 5) (hp : p < r * c) (hq : q < r * c) : f_X9_isChosen k (nI p) (nI q) σ = some (b2 (askV co ri dn r c u p q), σ) := by
  have hrc := hz.rc
  have rp := hz.2.2.2.2.2.2 p hp
  have rq := hz.2.2.2.2.2.2 q hq
  unfold f_X9_isChosen f_X9_isChosen_b62 askV
  rw [hu]
  rcases (show u = 0 ∨ u = 1 ∨ u = 2 ∨ u = 3 ∨ u = 4 by omega) with rfl | rfl | rfl | rfl | rfl
  · simp (disch := omega) only [rdN, wrN, rdZ, wrZ, p_put_eq, call_some, nzN, boN, nI_1, nI_add, pk_mul, lit_4, lit_16, le_T, le_F, lt_T, lt_F, eq_T, eq_F, le_T0, le_F0, lt_F0, lt_T0, eq_T0, eq_F0, eqm_F, up_s2, up_n2, Ev_some, nz_0, nz_1, if_true, if_false, reduceIte, and_true, true_and, and_false, false_and, b2_0, b2_1, Bool.true_eq_false, Bool.false_eq_true, not_true_eq_false, not_false_eq_true, q_1, q_2, q_3]
    rfl
  · simp (disch := omega) only [rdN, wrN, rdZ, wrZ, p_put_eq, call_some, nzN, boN, nI_1, nI_add, pk_mul, lit_4, lit_16, le_T, le_F, lt_T, lt_F, eq_T, eq_F, le_T0, le_F0, lt_F0, lt_T0, eq_T0, eq_F0, eqm_F, up_s2, up_n2, Ev_some, nz_0, nz_1, if_true, if_false, reduceIte, and_true, true_and, and_false, false_and, b2_0, b2_1, Bool.true_eq_false, Bool.false_eq_true, not_true_eq_false, not_false_eq_true, q_1]
    rw [show σ (k + 1 + 1 + 3) p = _ from rp, show σ (k + 1 + 1 + 3) q = _ from rq, flat_rim hz.r hz.c he hp]
    cases rim r c p <;> cases rim r c q <;> rfl
  · simp (disch := omega) only [rdN, wrN, rdZ, wrZ, p_put_eq, call_some, nzN, boN, nI_1, nI_add, pk_mul, lit_4, lit_16, le_T, le_F, lt_T, lt_F, eq_T, eq_F, le_T0, le_F0, lt_F0, lt_T0, eq_T0, eq_F0, eqm_F, up_s2, up_n2, Ev_some, nz_0, nz_1, if_true, if_false, reduceIte, and_true, true_and, and_false, false_and, b2_0, b2_1, Bool.true_eq_false, Bool.false_eq_true, not_true_eq_false, not_false_eq_true, q_1, q_2]
    rw [show σ (k + 1 + 1 + 4) p = _ from hc p hp, show σ (k + 1 + 1 + 4) q = _ from hc q hq]
    rcases Classical.propComplete (co p = co q) with pc1 | pc1 <;> simp [pc1, b2]
  · simp (disch := omega) only [rdN, wrN, rdZ, wrZ, p_put_eq, call_some, nzN, boN, nI_1, nI_add, pk_mul, lit_4, lit_16, le_T, le_F, lt_T, lt_F, eq_T, eq_F, le_T0, le_F0, lt_F0, lt_T0, eq_T0, eq_F0, eqm_F, up_s2, up_n2, Ev_some, nz_0, nz_1, if_true, if_false, reduceIte, and_true, true_and, and_false, false_and, b2_0, b2_1, Bool.true_eq_false, Bool.false_eq_true, not_true_eq_false, not_false_eq_true, q_1, q_2, q_3]
    rw [show f_X1_nubsOf (k + 1 + 1) (nI p) σ = _ from x_nubsOf hz hp, call_some, show f_X1_nubsOf (k + 1 + 1) (nI q) σ = _ from x_nubsOf hz hq, call_some]
    rcases Classical.propComplete (nubV ri dn r c p = nubV ri dn r c q) with pc1 | pc1 <;> simp [pc1, b2]
  · simp (disch := omega) only [rdN, wrN, rdZ, wrZ, p_put_eq, call_some, nzN, boN, nI_1, nI_add, pk_mul, lit_4, lit_16, le_T, le_F, lt_T, lt_F, eq_T, eq_F, le_T0, le_F0, lt_F0, lt_T0, eq_T0, eq_F0, eqm_F, up_s2, up_n2, Ev_some, nz_0, nz_1, if_true, if_false, reduceIte, and_true, true_and, and_false, false_and, b2_0, b2_1, Bool.true_eq_false, Bool.false_eq_true, not_true_eq_false, not_false_eq_true, q_1, q_2, q_3]
    rw [show f_X1_nubsOf (k + 1 + 1) (nI p) σ = _ from x_nubsOf hz hp, call_some, show f_X1_nubsOf (k + 1 + 1) (nI q) σ = _ from x_nubsOf hz hq, call_some]
    rcases Classical.propComplete (nubV ri dn r c p = nubV ri dn r c q) with pc1 | pc1 <;> simp [pc1, b2]
