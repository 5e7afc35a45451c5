/-! the law: every call answers, the compared ones alike -/
set_option maxRecDepth 100000 in
set_option maxHeartbeats 4000000 in
theorem law_step {xs : Nat → Int32} {L i n : Nat} {σ τ : Sg} (hL : L ≤ 320) (hi : 5 * i + 5 ≤ L) (h : Inv i σ τ) (hs : ∀ x y z w, Rl i (f_X10_seconds 0 x y z w σ) (f_X11_seconds 103 x y z w τ)) (hc : ∀ x, Rl i (f_X10_count 0 x σ) (f_X11_count 103 x τ)) (ih : ∀ σ' τ', Inv (i + 1) σ' τ' → ∃ o, f_L_law_b1113 xs L (f_L_law_b18 xs L n) (nI (5 * i)) σ' τ' = some ((1 : Int32), o)) : ∃ o, f_L_law_b18 xs L (n + 1) (nI (5 * i)) σ τ = some ((1 : Int32), o) := by
  have e1 : nI (5 * i) + 1 = nI (5 * i + 1) := nI_add (5 * i) 1
  have e2 : nI (5 * i) + 2 = nI (5 * i + 2) := nI_add (5 * i) 2
  have e3 : nI (5 * i) + 3 = nI (5 * i + 3) := nI_add (5 * i) 3
  have e4 : nI (5 * i) + 4 = nI (5 * i + 4) := nI_add (5 * i) 4
  have ih' : ∀ σ' τ', Inv i σ' τ' → ∃ o, f_L_law_b1113 xs L (f_L_law_b18 xs L n) (nI (5 * i)) σ' τ' = some ((1 : Int32), o) := fun σ' τ' I => ih σ' τ' (I.mono (by omega))
  rw [f_L_law_b18, if_neg (len_ge hL hi), xsN (by omega) hL]
  generalize xs (5 * i) = w
  by_cases c0 : w &&& 63 = 0
  · rw [if_pos c0]
    simp (disch := omega) only [e1, e2, e3, e4, xsN]
    exact step_l (r_feed h) ih'
  rw [if_neg c0]
  by_cases c1 : w &&& 63 = 1
  · rw [if_pos c1]
    exact step_l (r_puzzle h) ih'
  rw [if_neg c1]
  by_cases c2 : w &&& 63 = 2
  · rw [if_pos c2]
    simp (disch := omega) only [e1, e2, e3, e4, xsN]
    exact step_l (r_side h) ih'
  rw [if_neg c2]
  by_cases c3 : w &&& 63 = 3
  · rw [if_pos c3]
    simp (disch := omega) only [e1, e2, e3, e4, xsN]
    exact step_l (r_colour h) ih'
  rw [if_neg c3]
  by_cases c4 : w &&& 63 = 4
  · rw [if_pos c4]
    simp (disch := omega) only [e1, e2, e3, e4, xsN]
    exact step_l (r_person h) ih'
  rw [if_neg c4]
  by_cases c5 : w &&& 63 = 5
  · rw [if_pos c5]
    simp (disch := omega) only [e1, e2, e3, e4, xsN]
    exact step_l (r_laid h) ih'
  rw [if_neg c5]
  by_cases c6 : w &&& 63 = 6
  · rw [if_pos c6]
    simp (disch := omega) only [e1, e2, e3, e4, xsN]
    exact step_l (r_fits h) ih'
  rw [if_neg c6]
  by_cases c7 : w &&& 63 = 7
  · rw [if_pos c7]
    simp (disch := omega) only [e1, e2, e3, e4, xsN]
    exact step_l (hs _ _ _ _) ih'
  rw [if_neg c7]
  by_cases c8 : w &&& 63 = 8
  · rw [if_pos c8]
    simp (disch := omega) only [e1, e2, e3, e4, xsN]
    exact step_l (r_tryIt h) ih
  rw [if_neg c8]
  by_cases c9 : w &&& 63 = 9
  · rw [if_pos c9]
    simp (disch := omega) only [e1, e2, e3, e4, xsN]
    exact step_l (r_lift h) ih'
  rw [if_neg c9]
  by_cases c10 : w &&& 63 = 10
  · rw [if_pos c10]
    simp (disch := omega) only [e1, e2, e3, e4, xsN]
    exact step_l (r_pocket h) ih'
  rw [if_neg c10]
  by_cases c11 : w &&& 63 = 11
  · rw [if_pos c11]
    simp (disch := omega) only [e1, e2, e3, e4, xsN]
    exact step_l (r_find h) ih'
  rw [if_neg c11]
  by_cases c12 : w &&& 63 = 12
  · rw [if_pos c12]
    simp (disch := omega) only [e1, e2, e3, e4, xsN]
    exact step_l (r_ways h) ih'
  rw [if_neg c12]
  by_cases c13 : w &&& 63 = 13
  · rw [if_pos c13]
    simp (disch := omega) only [e1, e2, e3, e4, xsN]
    exact step_l (r_first h) ih'
  rw [if_neg c13]
  by_cases c14 : w &&& 63 = 14
  · rw [if_pos c14]
    simp (disch := omega) only [e1, e2, e3, e4, xsN]
    exact step_l (r_done h) ih'
  rw [if_neg c14]
  by_cases c15 : w &&& 63 = 15
  · rw [if_pos c15]
    simp (disch := omega) only [e1, e2, e3, e4, xsN]
    exact step_l (r_half h) ih'
  rw [if_neg c15]
  by_cases c16 : w &&& 63 = 16
  · rw [if_pos c16]
    simp (disch := omega) only [e1, e2, e3, e4, xsN]
    exact step_l (r_bestRule h) ih'
  rw [if_neg c16]
  by_cases c17 : w &&& 63 = 17
  · rw [if_pos c17]
    simp (disch := omega) only [e1, e2, e3, e4, xsN]
    exact step_l (r_table h) ih'
  rw [if_neg c17]
  by_cases c18 : w &&& 63 = 18
  · rw [if_pos c18]
    simp (disch := omega) only [e1, e2, e3, e4, xsN]
    exact step_l (r_line h) ih'
  rw [if_neg c18]
  by_cases c19 : w &&& 63 = 19
  · rw [if_pos c19]
    exact step_l (r_seems h) ih'
  rw [if_neg c19]
  by_cases c20 : w &&& 63 = 20
  · rw [if_pos c20]
    exact step_l (r_wrong h) ih'
  rw [if_neg c20]
  by_cases c21 : w &&& 63 = 21
  · rw [if_pos c21]
    exact step_l (r_falseOne h) ih'
  rw [if_neg c21]
  by_cases c22 : w &&& 63 = 22
  · rw [if_pos c22]
    exact step_l (r_over h) ih'
  rw [if_neg c22]
  by_cases c23 : w &&& 63 = 23
  · rw [if_pos c23]
    simp (disch := omega) only [e1, e2, e3, e4, xsN]
    exact step_l (r_balance h) ih'
  rw [if_neg c23]
  by_cases c24 : w &&& 63 = 24
  · rw [if_pos c24]
    exact step_l (r_lacks h) ih'
  rw [if_neg c24]
  by_cases c25 : w &&& 63 = 25
  · rw [if_pos c25]
    exact step_l (r_which h) ih'
  rw [if_neg c25]
  by_cases c26 : w &&& 63 = 26
  · rw [if_pos c26]
    simp (disch := omega) only [e1, e2, e3, e4, xsN]
    exact step_l (r_mine (by omega) h) ih'
  rw [if_neg c26]
  by_cases c27 : w &&& 63 = 27
  · rw [if_pos c27]
    exact step_l (r_hardest h) ih'
  rw [if_neg c27]
  by_cases c28 : w &&& 63 = 28
  · rw [if_pos c28]
    simp (disch := omega) only [e1, e2, e3, e4, xsN]
    exact step_l (r_keeper h) ih'
  rw [if_neg c28]
  by_cases c29 : w &&& 63 = 29
  · rw [if_pos c29]
    simp (disch := omega) only [e1, e2, e3, e4, xsN]
    exact step_l (r_evening h) ih'
  rw [if_neg c29]
  by_cases c30 : w &&& 63 = 30
  · rw [if_pos c30]
    simp (disch := omega) only [e1, e2, e3, e4, xsN]
    exact step_l (r_row h) ih'
  rw [if_neg c30]
  by_cases c31 : w &&& 63 = 31
  · rw [if_pos c31]
    exact step_l (r_judge h) ih'
  rw [if_neg c31]
  by_cases c32 : w &&& 63 = 32
  · rw [if_pos c32]
    exact step_l (r_image h) ih'
  rw [if_neg c32]
  by_cases c33 : w &&& 63 = 33
  · rw [if_pos c33]
    exact step_l (r_on h) ih'
  rw [if_neg c33]
  by_cases c34 : w &&& 63 = 34
  · rw [if_pos c34]
    simp (disch := omega) only [e1, e2, e3, e4, xsN]
    exact step_l (hc _) ih'
  rw [if_neg c34]
  exact ih' σ τ h
theorem law_pure {L : Nat} (xs : Nat → Int32) (hL : L ≤ 5) : ∃ σ' : Sg, f_L_law_b18 xs L fu 0 sgX sgM = some (1, σ') := by
  obtain ⟨h, p1, p2, p3⟩ := inv_start
  rcases Nat.lt_or_ge L 5 with q | q
  · refine ⟨sgX, ?_⟩
    rw [show fu = 99999999 + 1 from rfl, f_L_law_b18, if_pos]
    exact ((len_lt (i := 0) (by omega) q).resolve_right (by decide))
  · have e5 : L = 5 := by omega
    subst e5
    refine law_step (xs := xs) (L := 5) (i := 0) (n := 99999999) (by decide) (by decide) h (fun x y z w => ?_) (fun x => ?_) (fun σ' τ' _ => ⟨σ', ?_⟩)
    · -- nobody is there
      obtain ⟨⟨r, c, g1, g2, g3⟩, -⟩ := id h
      unfold f_X10_seconds f_X11_seconds f_X10_seconds_b35 f_X11_seconds_b25
      simp (disch := omega) only [rdN, wrN, rdZ, wrZ, p_put_eq, call_some, nzN, boN, nI_1, nI_add, pk_mul, lit_4, lit_16, le_T, le_F, lt_T, lt_F, eq_T, eq_F, le_T0, le_F0, lt_F0, lt_T0, eq_T0, eq_F0, eqm_F, up_s2, up_n2, Ev_some, nz_0, nz_1, if_true, if_false, reduceIte, and_true, true_and, and_false, false_and, b2_0, b2_1, Bool.true_eq_false, Bool.false_eq_true, not_true_eq_false, not_false_eq_true, w_refTry g2 p1, v_isPerson (n := 0) p2, v_isCell g1, v_turn]
      have h0 : inB 0 x = false := by
        cases hx : inB 0 x with
        | false => rfl
        | true =>
          obtain ⟨u, hu, -⟩ := inB_of (by decide) hx
          exact absurd hu (Nat.not_lt_zero _)
      simp (disch := omega) only [rdN, wrN, rdZ, wrZ, p_put_eq, call_some, nzN, boN, nI_1, nI_add, pk_mul, lit_4, lit_16, le_T, le_F, lt_T, lt_F, eq_T, eq_F, le_T0, le_F0, lt_F0, lt_T0, eq_T0, eq_F0, eqm_F, up_s2, up_n2, Ev_some, nz_0, nz_1, if_true, if_false, reduceIte, and_true, true_and, and_false, false_and, b2_0, b2_1, Bool.true_eq_false, Bool.false_eq_true, not_true_eq_false, not_false_eq_true, h0, Bool.false_and, show ¬ (-1 : Int32) = 0 by decide]
      exact r_no h (by decide) n1
    · -- nothing was tried
      by_cases x6 : x = 6
      · subst x6
        have a : f_X10_count 0 6 sgX = some (0, sgX) := by
          unfold f_X10_count f_X10_count_b22
          rw [if_pos (show (6 : Int32) < 11 by decide), if_neg (show ¬ (6 : Int32) = 0 by decide), if_neg (show ¬ (6 : Int32) = 1 by decide), if_neg (show ¬ (6 : Int32) = 2 by decide), if_neg (show ¬ (6 : Int32) = 3 by decide), if_neg (show ¬ (6 : Int32) = 4 by decide), if_neg (show ¬ (6 : Int32) = 5 by decide), if_pos rfl, sgx_0]
        have b : f_X11_count 103 6 sgM = some (0, sgM) := by
          unfold f_X11_count
          rw [y_isIn, call_some, if_pos (by decide), if_neg (show ¬ (6 : Int32) = 0 by decide), if_neg (show ¬ (6 : Int32) = 1 by decide), if_neg (show ¬ (6 : Int32) = 2 by decide), if_neg (show ¬ (6 : Int32) = 3 by decide), if_neg (show ¬ (6 : Int32) = 4 by decide), if_neg (show ¬ (6 : Int32) = 5 by decide), if_pos rfl, p3]
        exact Rl.of a b h
      · obtain ⟨v, v', σ', τ', a, b, I, e⟩ := r_count (x := x) h
        exact ⟨v, σ', τ', a, by rw [e x6]; exact b, I⟩
    · unfold f_L_law_b1113
      rw [show (99999999 : Nat) = 99999998 + 1 from rfl, f_L_law_b18, if_pos]
      exact ((len_lt (L := 5) (i := 1) (by decide) (by decide)).resolve_right (by decide))
