/-! keeper, row, judge, count, and the changes of the board: lift, pocket, find -/
section RF
variable {i : Nat} {σ τ : Sg}
theorem r_keeper {x y : Int32} (h : Inv i σ τ) : Rl i (f_X10_keeper 0 x y σ) (f_X11_keeper 103 x y τ) := by
  have N4 : Rl i (p_call (f_X10_refuse 0 (-4) σ) (fun v s => some (v, s))) (p_call (f_X11_no 103 (-4) τ) (fun v s => some (v, s))) := r_no h (by decide) n4
  have N6 : Rl i (p_call (f_X10_refuse 0 (-6) σ) (fun v s => some (v, s))) (p_call (f_X11_no 103 (-6) τ) (fun v s => some (v, s))) := r_no h (by decide) n6
  unfold f_X10_keeper f_X11_keeper f_X11_keeper_b9 f_X11_keeper_b27 f_X11_keeper_b33 f_X10_keeper_b9 f_X10_keeper_b29
  rw [if_neg (show ¬ (-4 : Int32) = 0 by decide), if_neg (show ¬ (-6 : Int32) = 0 by decide), if_pos (show (0 : Int32) = 0 from rfl)]
  by_cases h1 : x < 0
  · rw [if_pos h1, if_pos h1]; exact N4
  rw [if_neg h1, if_neg h1]
  by_cases h2 : 1 ≤ y
  · rw [if_pos h2, if_pos h2]
    by_cases h3 : 999 < x
    · rw [if_pos h3, if_pos h3]; exact N6
    rw [if_neg h3, if_neg h3]
    by_cases h4 : y ≤ 99
    · rw [if_pos h4, if_pos h4]
      have hy : inB 100 y = true := by
        unfold inB
        rw [decide_eq_true (Int32.le_trans (by decide) h2), decide_eq_true (cast (le_lt 99 (by decide)) h4)]
        rfl
      obtain ⟨j, hj, rfl⟩ := inB_of (by decide) hy
      simp (disch := omega) only [rdN, wrN, rdZ, wrZ, p_put_eq, call_some, nzN, boN, nI_1, nI_add, pk_mul, lit_4, lit_16, le_T, le_F, lt_T, lt_F, eq_T, eq_F, le_T0, le_F0, lt_F0, lt_T0, eq_T0, eq_F0, eqm_F, up_s2, up_n2, Ev_some, nz_0, nz_1, if_true, if_false, reduceIte, and_true, true_and, and_false, false_and, b2_0, b2_1, Bool.true_eq_false, Bool.false_eq_true, not_true_eq_false, not_false_eq_true]
      by_cases h5 : (x - x / nI (j + 1) * nI (j + 1)) = 0
      · rw [if_pos h5, if_pos h5]; exact Rl.of rfl rfl h
      · rw [if_neg h5, if_neg h5]; exact Rl.of rfl rfl h
    · rw [if_neg h4, if_neg h4]; exact N6
  · rw [if_neg h2, if_neg h2]; exact N4
theorem r_row {x : Int32} (h : Inv i σ τ) : Rl i (f_X10_row 0 x σ) (f_X11_row 103 x τ) := by
  have N4 : Rl i (p_call (f_X10_refuse 0 (-4) σ) (fun v s => some (v, s))) (p_call (f_X11_no 103 (-4) τ) (fun v s => some (v, s))) := r_no h (by decide) n4
  have N6 : Rl i (p_call (f_X10_refuse 0 (-6) σ) (fun v s => some (v, s))) (p_call (f_X11_no 103 (-6) τ) (fun v s => some (v, s))) := r_no h (by decide) n6
  obtain ⟨h1, h2, h3, h4, h5⟩ := Inv.iff.mp h
  obtain ⟨n, a1, a2, a3, a4⟩ := h4
  unfold f_X10_row f_X11_row f_X11_row_b24 f_X10_row_b29
  rw [y_bound, call_some]
  by_cases x0 : 0 ≤ x
  · rw [if_pos x0, if_pos x0]
    by_cases x9 : x ≤ 99
    · rw [if_neg (Int32.not_lt.mpr x9), if_pos x9, if_pos rfl, if_neg (show ¬ (-6 : Int32) = 0 by decide), if_pos rfl]
      rw [show σ (0 + 57) 1 = nI n from a3, a2, lit_16]
      rcases Nat.lt_or_ge n 16 with u | u
      · unfold f_X8_add
        rw [show σ (0 + 57) 1 = nI n from a3]
        simp (disch := omega) only [rdN, wrN, rdZ, wrZ, p_put_eq, call_some, nzN, boN, nI_1, nI_add, pk_mul, lit_4, lit_16, le_T, le_F, lt_T, lt_F, eq_T, eq_F, le_T0, le_F0, lt_F0, lt_T0, eq_T0, eq_F0, eqm_F, up_s2, up_n2, Ev_some, nz_0, nz_1, if_true, if_false, reduceIte, and_true, true_and, and_false, false_and, b2_0, b2_1, Bool.true_eq_false, Bool.false_eq_true, not_true_eq_false, not_false_eq_true, a3, a2]
        refine Rl.of rfl rfl (Inv.iff.mpr ⟨?_, ?_, ?_, ⟨n + 1, by omega, by simp (disch := omega) only [rdN, wrN, rdZ, wrZ, p_put_eq, call_some, nzN, boN, nI_1, nI_add, pk_mul, lit_4, lit_16, le_T, le_F, lt_T, lt_F, eq_T, eq_F, le_T0, le_F0, lt_F0, lt_T0, eq_T0, eq_F0, eqm_F, up_s2, up_n2, Ev_some, nz_0, nz_1, if_true, if_false, reduceIte, and_true, true_and, and_false, false_and, b2_0, b2_1, Bool.true_eq_false, Bool.false_eq_true, not_true_eq_false, not_false_eq_true], by simp (disch := omega) only [rdN, wrN, rdZ, wrZ, p_put_eq, call_some, nzN, boN, nI_1, nI_add, pk_mul, lit_4, lit_16, le_T, le_F, lt_T, lt_F, eq_T, eq_F, le_T0, le_F0, lt_F0, lt_T0, eq_T0, eq_F0, eqm_F, up_s2, up_n2, Ev_some, nz_0, nz_1, if_true, if_false, reduceIte, and_true, true_and, and_false, false_and, b2_0, b2_1, Bool.true_eq_false, Bool.false_eq_true, not_true_eq_false, not_false_eq_true], fun j hj => ?_⟩, ?_⟩)
        · exact h1.fr (fun a _ _ => by rw [up_a (by omega), up_a (by omega)]) ⟨by rw [up_a (by omega), up_a (by omega)], by rw [up_a (by omega), up_a (by omega)], by rw [up_a (by omega), up_a (by omega)]⟩ (gM_fr (fun a _ _ => by rw [up_a (by omega), up_a (by omega)]) (fun b _ _ => by rw [up_n2 (by omega), up_n2 (by omega)]))
        · exact h2.fr (fun a _ _ => by rw [up_a (by omega), up_a (by omega)]) (by simp (disch := omega) only [rdN, wrN, rdZ, wrZ, p_put_eq, call_some, nzN, boN, nI_1, nI_add, pk_mul, lit_4, lit_16, le_T, le_F, lt_T, lt_F, eq_T, eq_F, le_T0, le_F0, lt_F0, lt_T0, eq_T0, eq_F0, eqm_F, up_s2, up_n2, Ev_some, nz_0, nz_1, if_true, if_false, reduceIte, and_true, true_and, and_false, false_and, b2_0, b2_1, Bool.true_eq_false, Bool.false_eq_true, not_true_eq_false, not_false_eq_true]) (by simp (disch := omega) only [rdN, wrN, rdZ, wrZ, p_put_eq, call_some, nzN, boN, nI_1, nI_add, pk_mul, lit_4, lit_16, le_T, le_F, lt_T, lt_F, eq_T, eq_F, le_T0, le_F0, lt_F0, lt_T0, eq_T0, eq_F0, eqm_F, up_s2, up_n2, Ev_some, nz_0, nz_1, if_true, if_false, reduceIte, and_true, true_and, and_false, false_and, b2_0, b2_1, Bool.true_eq_false, Bool.false_eq_true, not_true_eq_false, not_false_eq_true]) (fun b _ => by simp (disch := omega) only [rdN, wrN, rdZ, wrZ, p_put_eq, call_some, nzN, boN, nI_1, nI_add, pk_mul, lit_4, lit_16, le_T, le_F, lt_T, lt_F, eq_T, eq_F, le_T0, le_F0, lt_F0, lt_T0, eq_T0, eq_F0, eqm_F, up_s2, up_n2, Ev_some, nz_0, nz_1, if_true, if_false, reduceIte, and_true, true_and, and_false, false_and, b2_0, b2_1, Bool.true_eq_false, Bool.false_eq_true, not_true_eq_false, not_false_eq_true])
        · exact h3.fr (by simp (disch := omega) only [rdN, wrN, rdZ, wrZ, p_put_eq, call_some, nzN, boN, nI_1, nI_add, pk_mul, lit_4, lit_16, le_T, le_F, lt_T, lt_F, eq_T, eq_F, le_T0, le_F0, lt_F0, lt_T0, eq_T0, eq_F0, eqm_F, up_s2, up_n2, Ev_some, nz_0, nz_1, if_true, if_false, reduceIte, and_true, true_and, and_false, false_and, b2_0, b2_1, Bool.true_eq_false, Bool.false_eq_true, not_true_eq_false, not_false_eq_true]) (by rw [up_a (by omega), up_a (by omega)]) (by simp (disch := omega) only [rdN, wrN, rdZ, wrZ, p_put_eq, call_some, nzN, boN, nI_1, nI_add, pk_mul, lit_4, lit_16, le_T, le_F, lt_T, lt_F, eq_T, eq_F, le_T0, le_F0, lt_F0, lt_T0, eq_T0, eq_F0, eqm_F, up_s2, up_n2, Ev_some, nz_0, nz_1, if_true, if_false, reduceIte, and_true, true_and, and_false, false_and, b2_0, b2_1, Bool.true_eq_false, Bool.false_eq_true, not_true_eq_false, not_false_eq_true]) (by rw [up_a (by omega), up_a (by omega)])
        · by_cases e : j = n
          · subst e
            simp (disch := omega) only [rdN, wrN, rdZ, wrZ, p_put_eq, call_some, nzN, boN, nI_1, nI_add, pk_mul, lit_4, lit_16, le_T, le_F, lt_T, lt_F, eq_T, eq_F, le_T0, le_F0, lt_F0, lt_T0, eq_T0, eq_F0, eqm_F, up_s2, up_n2, Ev_some, nz_0, nz_1, if_true, if_false, reduceIte, and_true, true_and, and_false, false_and, b2_0, b2_1, Bool.true_eq_false, Bool.false_eq_true, not_true_eq_false, not_false_eq_true]
          · simp (disch := omega) only [rdN, wrN, rdZ, wrZ, p_put_eq, call_some, nzN, boN, nI_1, nI_add, pk_mul, lit_4, lit_16, le_T, le_F, lt_T, lt_F, eq_T, eq_F, le_T0, le_F0, lt_F0, lt_T0, eq_T0, eq_F0, eqm_F, up_s2, up_n2, Ev_some, nz_0, nz_1, if_true, if_false, reduceIte, and_true, true_and, and_false, false_and, b2_0, b2_1, Bool.true_eq_false, Bool.false_eq_true, not_true_eq_false, not_false_eq_true, a4 j (by omega)]
        · exact h5.fr (by rw [up_a (by omega), up_a (by omega)]) (by rw [up_a (by omega), up_a (by omega)])
      · simp (disch := omega) only [rdN, wrN, rdZ, wrZ, p_put_eq, call_some, nzN, boN, nI_1, nI_add, pk_mul, lit_4, lit_16, le_T, le_F, lt_T, lt_F, eq_T, eq_F, le_T0, le_F0, lt_F0, lt_T0, eq_T0, eq_F0, eqm_F, up_s2, up_n2, Ev_some, nz_0, nz_1, if_true, if_false, reduceIte, and_true, true_and, and_false, false_and, b2_0, b2_1, Bool.true_eq_false, Bool.false_eq_true, not_true_eq_false, not_false_eq_true]
        exact N6
    · rw [if_pos (Int32.not_le.mp x9), if_neg x9, if_neg (show ¬ (-6 : Int32) = 0 by decide), if_neg (show ¬ (-6 : Int32) = 0 by decide)]
      exact N6
  · rw [if_neg x0, if_neg x0, if_neg (show ¬ (-4 : Int32) = 0 by decide), if_neg (show ¬ (-4 : Int32) = 0 by decide)]
    exact N4
theorem y_judge {k r c n : Nat} (hz : Sz τ k r c) (hb : Bd τ k r c) (h39 : τ k 39 = nI n) (hn : n ≤ 16) : f_X11_judge k τ = some (match ff (fun q => !decide ((if flR (τ (k + 5)) q = true then τ (k + 5) q else 99) = τ (k + 23) q)) 0 (min n (r * c)) with
    | none => if n = r * c then -9 else nI (min n (r * c))
    | some j => nI j, sg_up τ k 39 0) := by
  have hrc := hz.rc
  have hz' : Sz (sg_up τ k 39 0) k r c := by
    unfold Sz
    rw [up_n2 (by omega), up_n2 (by omega)]
    exact hz
  have e5 : sg_up τ k 39 0 (k + 5) = τ (k + 5) := up_a (by omega)
  have e23 : sg_up τ k 39 0 (k + 23) = τ (k + 23) := up_a (by omega)
  unfold f_X11_judge
  rw [p_put_eq, h39]
  generalize sg_up τ k 39 0 = υ at hz' e5 e23
  have fin : f_X11_judge_b62 k (nI n) υ = some (if n = r * c then -9 else nI (min n (r * c)), υ) := by
    unfold f_X11_judge_b62
    rcases Nat.lt_trichotomy n (r * c) with u | u | u
    · simp (disch := omega) only [rdN, wrN, rdZ, wrZ, p_put_eq, call_some, nzN, boN, nI_1, nI_add, pk_mul, lit_4, lit_16, le_T, le_F, lt_T, lt_F, eq_T, eq_F, le_T0, le_F0, lt_F0, lt_T0, eq_T0, eq_F0, eqm_F, up_s2, up_n2, Ev_some, nz_0, nz_1, if_true, if_false, reduceIte, and_true, true_and, and_false, false_and, b2_0, b2_1, Bool.true_eq_false, Bool.false_eq_true, not_true_eq_false, not_false_eq_true, y_cells hz']
      rw [if_neg (by omega), Nat.min_eq_left (by omega)]
    · simp (disch := omega) only [rdN, wrN, rdZ, wrZ, p_put_eq, call_some, nzN, boN, nI_1, nI_add, pk_mul, lit_4, lit_16, le_T, le_F, lt_T, lt_F, eq_T, eq_F, le_T0, le_F0, lt_F0, lt_T0, eq_T0, eq_F0, eqm_F, up_s2, up_n2, Ev_some, nz_0, nz_1, if_true, if_false, reduceIte, and_true, true_and, and_false, false_and, b2_0, b2_1, Bool.true_eq_false, Bool.false_eq_true, not_true_eq_false, not_false_eq_true, y_cells hz']
      rw [if_pos u]
    · simp (disch := omega) only [rdN, wrN, rdZ, wrZ, p_put_eq, call_some, nzN, boN, nI_1, nI_add, pk_mul, lit_4, lit_16, le_T, le_F, lt_T, lt_F, eq_T, eq_F, le_T0, le_F0, lt_F0, lt_T0, eq_T0, eq_F0, eqm_F, up_s2, up_n2, Ev_some, nz_0, nz_1, if_true, if_false, reduceIte, and_true, true_and, and_false, false_and, b2_0, b2_1, Bool.true_eq_false, Bool.false_eq_true, not_true_eq_false, not_false_eq_true, y_cells hz']
      rw [if_neg (by omega), Nat.min_eq_right (by omega)]
  have h := lp_ff (L := fun f q => f_X11_judge_b12 k f (nI n) (nI q) υ) (m := min n (r * c)) (p := fun q => !decide ((if flR (τ (k + 5)) q = true then τ (k + 5) q else 99) = τ (k + 23) q)) (E := some (if n = r * c then -9 else nI (min n (r * c)), υ)) (F := fun j => some (nI j, υ)) (fun f => by
    show f_X11_judge_b12 k (f + 1) (nI n) (nI (min n (r * c))) υ = _
    rw [f_X11_judge_b12]
    rcases Nat.lt_or_ge (r * c) n with u | u
    · rw [Nat.min_eq_right (by omega)] at fin ⊢
      simp (disch := omega) only [rdN, wrN, rdZ, wrZ, p_put_eq, call_some, nzN, boN, nI_1, nI_add, pk_mul, lit_4, lit_16, le_T, le_F, lt_T, lt_F, eq_T, eq_F, le_T0, le_F0, lt_F0, lt_T0, eq_T0, eq_F0, eqm_F, up_s2, up_n2, Ev_some, nz_0, nz_1, if_true, if_false, reduceIte, and_true, true_and, and_false, false_and, b2_0, b2_1, Bool.true_eq_false, Bool.false_eq_true, not_true_eq_false, not_false_eq_true, y_cells hz']
      exact fin
    · rw [Nat.min_eq_left (by omega)] at fin ⊢
      simp (disch := omega) only [rdN, wrN, rdZ, wrZ, p_put_eq, call_some, nzN, boN, nI_1, nI_add, pk_mul, lit_4, lit_16, le_T, le_F, lt_T, lt_F, eq_T, eq_F, le_T0, le_F0, lt_F0, lt_T0, eq_T0, eq_F0, eqm_F, up_s2, up_n2, Ev_some, nz_0, nz_1, if_true, if_false, reduceIte, and_true, true_and, and_false, false_and, b2_0, b2_1, Bool.true_eq_false, Bool.false_eq_true, not_true_eq_false, not_false_eq_true]
      exact fin) (fun f q hq => by
    show f_X11_judge_b12 k (f + 1) (nI n) (nI q) υ = if _ then _ else f_X11_judge_b12 k f (nI n) (nI (q + 1)) υ
    rw [f_X11_judge_b12]
    have hq1 : q < n := by omega
    have hq2 : q < r * c := by omega
    simp (disch := omega) only [rdN, wrN, rdZ, wrZ, p_put_eq, call_some, nzN, boN, nI_1, nI_add, pk_mul, lit_4, lit_16, le_T, le_F, lt_T, lt_F, eq_T, eq_F, le_T0, le_F0, lt_F0, lt_T0, eq_T0, eq_F0, eqm_F, up_s2, up_n2, Ev_some, nz_0, nz_1, if_true, if_false, reduceIte, and_true, true_and, and_false, false_and, b2_0, b2_1, Bool.true_eq_false, Bool.false_eq_true, not_true_eq_false, not_false_eq_true, y_cells hz', f_X11_judge_b45, e5, e23]
    by_cases hl : τ (k + 5) q < 0
    · have ef : flR (τ (k + 5)) q = false := by unfold flR; rw [decide_eq_true hl]; rfl
      rw [if_neg (Int32.not_le.mpr hl), ef]
      simp (disch := omega) only [rdN, wrN, rdZ, wrZ, p_put_eq, call_some, nzN, boN, nI_1, nI_add, pk_mul, lit_4, lit_16, le_T, le_F, lt_T, lt_F, eq_T, eq_F, le_T0, le_F0, lt_F0, lt_T0, eq_T0, eq_F0, eqm_F, up_s2, up_n2, Ev_some, nz_0, nz_1, if_true, if_false, reduceIte, and_true, true_and, and_false, false_and, b2_0, b2_1, Bool.true_eq_false, Bool.false_eq_true, not_true_eq_false, not_false_eq_true]
      rcases Classical.propComplete ((99 : Int32) = τ (k + 23) q) with pc1 | pc1 <;> simp [pc1, b2]
    · have ef : flR (τ (k + 5)) q = true := by unfold flR; rw [decide_eq_false hl]; rfl
      rw [if_pos (Int32.not_lt.mp hl), ef]
      simp (disch := omega) only [rdN, wrN, rdZ, wrZ, p_put_eq, call_some, nzN, boN, nI_1, nI_add, pk_mul, lit_4, lit_16, le_T, le_F, lt_T, lt_F, eq_T, eq_F, le_T0, le_F0, lt_F0, lt_T0, eq_T0, eq_F0, eqm_F, up_s2, up_n2, Ev_some, nz_0, nz_1, if_true, if_false, reduceIte, and_true, true_and, and_false, false_and, b2_0, b2_1, Bool.true_eq_false, Bool.false_eq_true, not_true_eq_false, not_false_eq_true]
      rcases Classical.propComplete (τ (k + 5) q = τ (k + 23) q) with pc1 | pc1 <;> simp [pc1, b2]) fu 0 (Nat.zero_le _) (fu_lt (by omega))
  refine Eq.trans h ?_
  rw [Nat.sub_zero]
  cases ff (fun q => !decide ((if flR (τ (k + 5)) q = true then τ (k + 5) q else 99) = τ (k + 23) q)) 0 (min n (r * c)) <;> rfl
theorem r_judge (h : Inv i σ τ) : Rl i (f_X10_judge 0 σ) (f_X11_judge 103 τ) := by
  obtain ⟨h1, h2, h3, h4, h5⟩ := Inv.iff.mp h
  obtain ⟨n, a1, a2, a3, a4⟩ := h4
  obtain ⟨r, c, g1, g2, g3⟩ := id h1
  have hrc := g1.rc
  unfold f_X10_judge
  rw [show f_X8_compareWith (0 + 57) (0 + 1) σ = _ from x_compare (k := 57) (k1 := 1) g2.1 a3 a1, call_some, p_put_eq, y_judge g1.sz g1.bd a2 a1]
  have e : ff (fun q => !decide (σ (57 + 1) q = lieX (σ (1 + 6 + 1)) q)) 0 (min n (r * c)) = ff (fun q => !decide ((if flR (τ (103 + 5)) q = true then τ (103 + 5) q else 99) = τ (103 + 23) q)) 0 (min n (r * c)) := ff_congr _ _ (fun q _ hq => by
    have e1 : σ (57 + 1) q = τ (103 + 23) q := a4 q (by omega)
    have e2 : lieX (σ (1 + 6 + 1)) q = if flR (τ (103 + 5)) q = true then τ (103 + 5) q else 99 := by
      unfold lieX
      rw [show fl (σ (1 + 6 + 1)) q = flR (τ (103 + 5)) q from flx g1 g2 (by omega), show σ (1 + 6 + 1) q = τ (103 + 5) q from (g2.2.2.2.1 q (by omega)).1]
    rw [e1, e2]
    congr 1
    exact decide_eq_decide.mpr ⟨Eq.symm, Eq.symm⟩)
  rw [e]
  refine Rl.of rfl rfl (Inv.iff.mpr ⟨?_, ?_, ?_, ⟨0, by decide, by simp (disch := omega) only [rdN, wrN, rdZ, wrZ, p_put_eq, call_some, nzN, boN, nI_1, nI_add, pk_mul, lit_4, lit_16, le_T, le_F, lt_T, lt_F, eq_T, eq_F, le_T0, le_F0, lt_F0, lt_T0, eq_T0, eq_F0, eqm_F, up_s2, up_n2, Ev_some, nz_0, nz_1, if_true, if_false, reduceIte, and_true, true_and, and_false, false_and, b2_0, b2_1, Bool.true_eq_false, Bool.false_eq_true, not_true_eq_false, not_false_eq_true]; rfl, by simp (disch := omega) only [rdN, wrN, rdZ, wrZ, p_put_eq, call_some, nzN, boN, nI_1, nI_add, pk_mul, lit_4, lit_16, le_T, le_F, lt_T, lt_F, eq_T, eq_F, le_T0, le_F0, lt_F0, lt_T0, eq_T0, eq_F0, eqm_F, up_s2, up_n2, Ev_some, nz_0, nz_1, if_true, if_false, reduceIte, and_true, true_and, and_false, false_and, b2_0, b2_1, Bool.true_eq_false, Bool.false_eq_true, not_true_eq_false, not_false_eq_true]; rfl, fun j hj => absurd hj (Nat.not_lt_zero _)⟩, ?_⟩)
  · exact h1.fr (fun a _ _ => up_a (by omega)) ⟨up_a (by decide), up_a (by decide), up_a (by decide)⟩ (gM_fr (fun a _ _ => up_a (by omega)) (fun b _ _ => up_n2 (by omega)))
  · exact h2.fr (fun a _ _ => up_a (by omega)) (by simp (disch := omega) only [rdN, wrN, rdZ, wrZ, p_put_eq, call_some, nzN, boN, nI_1, nI_add, pk_mul, lit_4, lit_16, le_T, le_F, lt_T, lt_F, eq_T, eq_F, le_T0, le_F0, lt_F0, lt_T0, eq_T0, eq_F0, eqm_F, up_s2, up_n2, Ev_some, nz_0, nz_1, if_true, if_false, reduceIte, and_true, true_and, and_false, false_and, b2_0, b2_1, Bool.true_eq_false, Bool.false_eq_true, not_true_eq_false, not_false_eq_true]) (by simp (disch := omega) only [rdN, wrN, rdZ, wrZ, p_put_eq, call_some, nzN, boN, nI_1, nI_add, pk_mul, lit_4, lit_16, le_T, le_F, lt_T, lt_F, eq_T, eq_F, le_T0, le_F0, lt_F0, lt_T0, eq_T0, eq_F0, eqm_F, up_s2, up_n2, Ev_some, nz_0, nz_1, if_true, if_false, reduceIte, and_true, true_and, and_false, false_and, b2_0, b2_1, Bool.true_eq_false, Bool.false_eq_true, not_true_eq_false, not_false_eq_true]) (fun b _ => by simp (disch := omega) only [rdN, wrN, rdZ, wrZ, p_put_eq, call_some, nzN, boN, nI_1, nI_add, pk_mul, lit_4, lit_16, le_T, le_F, lt_T, lt_F, eq_T, eq_F, le_T0, le_F0, lt_F0, lt_T0, eq_T0, eq_F0, eqm_F, up_s2, up_n2, Ev_some, nz_0, nz_1, if_true, if_false, reduceIte, and_true, true_and, and_false, false_and, b2_0, b2_1, Bool.true_eq_false, Bool.false_eq_true, not_true_eq_false, not_false_eq_true])
  · exact h3.fr (by simp (disch := omega) only [rdN, wrN, rdZ, wrZ, p_put_eq, call_some, nzN, boN, nI_1, nI_add, pk_mul, lit_4, lit_16, le_T, le_F, lt_T, lt_F, eq_T, eq_F, le_T0, le_F0, lt_F0, lt_T0, eq_T0, eq_F0, eqm_F, up_s2, up_n2, Ev_some, nz_0, nz_1, if_true, if_false, reduceIte, and_true, true_and, and_false, false_and, b2_0, b2_1, Bool.true_eq_false, Bool.false_eq_true, not_true_eq_false, not_false_eq_true]) (up_a (by omega)) (by simp (disch := omega) only [rdN, wrN, rdZ, wrZ, p_put_eq, call_some, nzN, boN, nI_1, nI_add, pk_mul, lit_4, lit_16, le_T, le_F, lt_T, lt_F, eq_T, eq_F, le_T0, le_F0, lt_F0, lt_T0, eq_T0, eq_F0, eqm_F, up_s2, up_n2, Ev_some, nz_0, nz_1, if_true, if_false, reduceIte, and_true, true_and, and_false, false_and, b2_0, b2_1, Bool.true_eq_false, Bool.false_eq_true, not_true_eq_false, not_false_eq_true]) (up_a (by omega))
  · exact h5.fr (up_a (by omega)) (up_a (by omega))
end RF
