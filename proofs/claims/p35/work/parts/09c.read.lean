/-! calls that only look -/
section RD
variable {i : Nat} {σ τ : Sg}
theorem r_side {x y z : Int32} (h : Inv i σ τ) : Rl i (f_X10_side 0 x y z σ) (f_X11_side 103 x y z τ) := by
  obtain ⟨⟨r, c, g1, g2, g3⟩, -⟩ := id h
  have hrc := g1.rc
  unfold f_X10_side f_X11_side f_X10_side_b33 f_X11_side_b32
  simp (disch := omega) only [rdN, wrN, rdZ, wrZ, p_put_eq, call_some, nzN, boN, nI_1, nI_add, pk_mul, lit_4, lit_16, le_T, le_F, lt_T, lt_F, eq_T, eq_F, le_T0, le_F0, lt_F0, lt_T0, eq_T0, eq_F0, eqm_F, up_s2, up_n2, Ev_some, nz_0, nz_1, if_true, if_false, reduceIte, and_true, true_and, and_false, false_and, b2_0, b2_1, Bool.true_eq_false, Bool.false_eq_true, not_true_eq_false, not_false_eq_true, w_isCell g2, v_isCell g1, w_isTurn, v_turn]
  cases hx : inB (r * c) x with
  | false => simp (disch := omega) only [rdN, wrN, rdZ, wrZ, p_put_eq, call_some, nzN, boN, nI_1, nI_add, pk_mul, lit_4, lit_16, le_T, le_F, lt_T, lt_F, eq_T, eq_F, le_T0, le_F0, lt_F0, lt_T0, eq_T0, eq_F0, eqm_F, up_s2, up_n2, Ev_some, nz_0, nz_1, if_true, if_false, reduceIte, and_true, true_and, and_false, false_and, b2_0, b2_1, Bool.true_eq_false, Bool.false_eq_true, not_true_eq_false, not_false_eq_true]; exact r_lo h (by decide) n1
  | true =>
    simp (disch := omega) only [rdN, wrN, rdZ, wrZ, p_put_eq, call_some, nzN, boN, nI_1, nI_add, pk_mul, lit_4, lit_16, le_T, le_F, lt_T, lt_F, eq_T, eq_F, le_T0, le_F0, lt_F0, lt_T0, eq_T0, eq_F0, eqm_F, up_s2, up_n2, Ev_some, nz_0, nz_1, if_true, if_false, reduceIte, and_true, true_and, and_false, false_and, b2_0, b2_1, Bool.true_eq_false, Bool.false_eq_true, not_true_eq_false, not_false_eq_true]
    cases hy : inB 4 y with
    | false => simp (disch := omega) only [rdN, wrN, rdZ, wrZ, p_put_eq, call_some, nzN, boN, nI_1, nI_add, pk_mul, lit_4, lit_16, le_T, le_F, lt_T, lt_F, eq_T, eq_F, le_T0, le_F0, lt_F0, lt_T0, eq_T0, eq_F0, eqm_F, up_s2, up_n2, Ev_some, nz_0, nz_1, if_true, if_false, reduceIte, and_true, true_and, and_false, false_and, b2_0, b2_1, Bool.true_eq_false, Bool.false_eq_true, not_true_eq_false, not_false_eq_true]; exact r_lo h (by decide) n2
    | true =>
      simp (disch := omega) only [rdN, wrN, rdZ, wrZ, p_put_eq, call_some, nzN, boN, nI_1, nI_add, pk_mul, lit_4, lit_16, le_T, le_F, lt_T, lt_F, eq_T, eq_F, le_T0, le_F0, lt_F0, lt_T0, eq_T0, eq_F0, eqm_F, up_s2, up_n2, Ev_some, nz_0, nz_1, if_true, if_false, reduceIte, and_true, true_and, and_false, false_and, b2_0, b2_1, Bool.true_eq_false, Bool.false_eq_true, not_true_eq_false, not_false_eq_true]
      cases hz : inB 4 z with
      | false => simp (disch := omega) only [rdN, wrN, rdZ, wrZ, p_put_eq, call_some, nzN, boN, nI_1, nI_add, pk_mul, lit_4, lit_16, le_T, le_F, lt_T, lt_F, eq_T, eq_F, le_T0, le_F0, lt_F0, lt_T0, eq_T0, eq_F0, eqm_F, up_s2, up_n2, Ev_some, nz_0, nz_1, if_true, if_false, reduceIte, and_true, true_and, and_false, false_and, b2_0, b2_1, Bool.true_eq_false, Bool.false_eq_true, not_true_eq_false, not_false_eq_true]; exact r_lo h (by decide) n2
      | true =>
        simp (disch := omega) only [rdN, wrN, rdZ, wrZ, p_put_eq, call_some, nzN, boN, nI_1, nI_add, pk_mul, lit_4, lit_16, le_T, le_F, lt_T, lt_F, eq_T, eq_F, le_T0, le_F0, lt_F0, lt_T0, eq_T0, eq_F0, eqm_F, up_s2, up_n2, Ev_some, nz_0, nz_1, if_true, if_false, reduceIte, and_true, true_and, and_false, false_and, b2_0, b2_1, Bool.true_eq_false, Bool.false_eq_true, not_true_eq_false, not_false_eq_true]
        obtain ⟨p, hp, rfl⟩ := inB_of (by omega) hx
        obtain ⟨t, ht, rfl⟩ := inB_of (by decide) hy
        obtain ⟨s, hs, rfl⟩ := inB_of (by decide) hz
        have e1 := x_sideOf g2.1 hp hs ht
        have e2 := y_turned g1.sz hp hs ht
        refine Rl.of (v := sdv (τ 105) (τ 106) r c p ((s + 4 - t) % 4)) ?_ ?_ h
        · rw [show f_X1_sideOf (0 + 1 + 1) (nI p) (nI t) (nI s) σ = _ from e1]; rfl
        · rw [e2]; rfl
theorem r_colour {x : Int32} (h : Inv i σ τ) : Rl i (f_X10_colour 0 x σ) (f_X11_colour 103 x τ) := by
  obtain ⟨⟨r, c, g1, g2, g3⟩, -⟩ := id h
  have hrc := g1.rc
  unfold f_X10_colour f_X11_colour
  simp (disch := omega) only [rdN, wrN, rdZ, wrZ, p_put_eq, call_some, nzN, boN, nI_1, nI_add, pk_mul, lit_4, lit_16, le_T, le_F, lt_T, lt_F, eq_T, eq_F, le_T0, le_F0, lt_F0, lt_T0, eq_T0, eq_F0, eqm_F, up_s2, up_n2, Ev_some, nz_0, nz_1, if_true, if_false, reduceIte, and_true, true_and, and_false, false_and, b2_0, b2_1, Bool.true_eq_false, Bool.false_eq_true, not_true_eq_false, not_false_eq_true, w_isCell g2, v_isCell g1]
  cases hx : inB (r * c) x with
  | false => simp (disch := omega) only [rdN, wrN, rdZ, wrZ, p_put_eq, call_some, nzN, boN, nI_1, nI_add, pk_mul, lit_4, lit_16, le_T, le_F, lt_T, lt_F, eq_T, eq_F, le_T0, le_F0, lt_F0, lt_T0, eq_T0, eq_F0, eqm_F, up_s2, up_n2, Ev_some, nz_0, nz_1, if_true, if_false, reduceIte, and_true, true_and, and_false, false_and, b2_0, b2_1, Bool.true_eq_false, Bool.false_eq_true, not_true_eq_false, not_false_eq_true]; exact r_no h (by decide) n1
  | true =>
    obtain ⟨p, hp, rfl⟩ := inB_of (by omega) hx
    simp (disch := omega) only [rdN, wrN, rdZ, wrZ, p_put_eq, call_some, nzN, boN, nI_1, nI_add, pk_mul, lit_4, lit_16, le_T, le_F, lt_T, lt_F, eq_T, eq_F, le_T0, le_F0, lt_F0, lt_T0, eq_T0, eq_F0, eqm_F, up_s2, up_n2, Ev_some, nz_0, nz_1, if_true, if_false, reduceIte, and_true, true_and, and_false, false_and, b2_0, b2_1, Bool.true_eq_false, Bool.false_eq_true, not_true_eq_false, not_false_eq_true]
    exact Rl.of rfl (by rw [show σ 6 p = τ 107 p from g2.2.2.1 p hp]) h
theorem y_did {w : Int32} {k r c : Nat} (hz : Sz τ k r c) : f_X11_person_b65 k fu w 0 0 τ = some (sm (fun q => b2 (flR (τ (k + 5)) q && decide (τ (k + 7) q = w))) 0 (r * c), τ) := by
  have hrc := hz.rc
  have h := lp_sm (L := fun n i a => f_X11_person_b65 k n w a (nI i) τ) (m := r * c) (g := fun q => b2 (flR (τ (k + 5)) q && decide (τ (k + 7) q = w))) (E := fun a => some (a, τ)) (fun n a => by
    show f_X11_person_b65 k (n + 1) w a (nI (r * c)) τ = _
    simp (disch := omega) only [rdN, wrN, rdZ, wrZ, p_put_eq, call_some, nzN, boN, nI_1, nI_add, pk_mul, lit_4, lit_16, le_T, le_F, lt_T, lt_F, eq_T, eq_F, le_T0, le_F0, lt_F0, lt_T0, eq_T0, eq_F0, eqm_F, up_s2, up_n2, Ev_some, nz_0, nz_1, if_true, if_false, reduceIte, and_true, true_and, and_false, false_and, b2_0, b2_1, Bool.true_eq_false, Bool.false_eq_true, not_true_eq_false, not_false_eq_true, f_X11_person_b65, y_cells hz]) (fun n i a hi => by
    show f_X11_person_b65 k (n + 1) w a (nI i) τ = f_X11_person_b65 k n w (a + _) (nI (i + 1)) τ
    simp (disch := omega) only [rdN, wrN, rdZ, wrZ, p_put_eq, call_some, nzN, boN, nI_1, nI_add, pk_mul, lit_4, lit_16, le_T, le_F, lt_T, lt_F, eq_T, eq_F, le_T0, le_F0, lt_F0, lt_T0, eq_T0, eq_F0, eqm_F, up_s2, up_n2, Ev_some, nz_0, nz_1, if_true, if_false, reduceIte, and_true, true_and, and_false, false_and, b2_0, b2_1, Bool.true_eq_false, Bool.false_eq_true, not_true_eq_false, not_false_eq_true, f_X11_person_b65, y_cells hz, f_X11_person_b100, f_X11_person_b101, flR]
    rcases Classical.propComplete (τ (k + 5) i < 0) with pc1 | pc1 <;> rcases Classical.propComplete (τ (k + 7) i = w) with pc2 | pc2 <;> simp [pc1, pc2, b2]) fu 0 0 (Nat.zero_le _) (fu_lt (by omega))
  rw [Int32.zero_add, Nat.sub_zero] at h
  exact h
/-- what holds of 16 cells holds of those that there are -/
theorem sm_16 {f : Nat → Int32} {m : Nat} (hm : m ≤ 16) (h : ∀ q, m ≤ q → q < 16 → f q = 0) : sm f 0 16 = sm f 0 m := by
  have e := sm_split (g := f) m (16 - m) 0
  rw [show m + (16 - m) = 16 by omega, Nat.zero_add] at e
  rw [e, sm_zero (16 - m) m (fun j a b => h j a (by omega)), Int32.add_zero]
theorem fl_R {G : Sg} {r c B q : Nat} (g1 : GOk G r c B) (hq : q < 16) : fl (G 3) q = flR (G 3) q := by
  have hrc := g1.rc
  unfold fl flR
  rcases g1.2.2.1 q hq with e | ⟨-, p, t, hp, ht, e1, e2⟩
  · rw [e]; decide
  · rw [e1, decide_eq_false (nI_nm1 (by omega)), decide_eq_false (nI_pos (by omega))]
theorem fl_out {G : Sg} {r c B q : Nat} (g1 : GOk G r c B) (h1 : r * c ≤ q) (hq : q < 16) : fl (G 3) q = false := by
  unfold fl
  rcases g1.2.2.1 q hq with e | ⟨x, -⟩
  · rw [e]; decide
  · omega
theorem sm_fl {r c : Nat} {g : Nat → Bool} (g1 : GOk (gM τ) r c (60 * i)) (g2 : GameOk σ 1 (gM τ) r c) : sm (fun q => b2 (fl (σ 8) q && g q)) 0 16 = sm (fun q => b2 (flR (τ 108) q && g q)) 0 (r * c) := by
  have hrc := g1.rc
  have e : ∀ q, q < 16 → fl (σ 8) q = fl (τ 108) q := fun q hq => by
    unfold fl
    rw [show σ 8 q = τ 108 q from (g2.2.2.2.1 q hq).1]
  rw [sm_congr (h := fun q => b2 (fl (τ 108) q && g q)) 16 0 (fun q _ hq => by rw [e q (by omega)]), sm_16 hrc (fun q a b => by rw [show fl (τ 108) q = false from fl_out g1 a b]; rfl)]
  exact sm_congr _ _ (fun q _ hq => by rw [show fl (τ 108) q = flR (τ 108) q from fl_R g1 (by omega)])
theorem r_person {x y : Int32} (h : Inv i σ τ) : Rl i (f_X10_person 0 x y σ) (f_X11_person 103 x y τ) := by
  obtain ⟨⟨r, c, g1, g2, g3⟩, -⟩ := id h
  have hrc := g1.rc
  obtain ⟨n, n6, e1, e2, e3⟩ := people g1 g2
  unfold f_X10_person f_X11_person
  simp (disch := omega) only [rdN, wrN, rdZ, wrZ, p_put_eq, call_some, nzN, boN, nI_1, nI_add, pk_mul, lit_4, lit_16, le_T, le_F, lt_T, lt_F, eq_T, eq_F, le_T0, le_F0, lt_F0, lt_T0, eq_T0, eq_F0, eqm_F, up_s2, up_n2, Ev_some, nz_0, nz_1, if_true, if_false, reduceIte, and_true, true_and, and_false, false_and, b2_0, b2_1, Bool.true_eq_false, Bool.false_eq_true, not_true_eq_false, not_false_eq_true, w_isPerson e2, v_isPerson e1, x_laidBy, y_did g1.sz]
  cases hx : inB n x with
  | false => simp (disch := omega) only [rdN, wrN, rdZ, wrZ, p_put_eq, call_some, nzN, boN, nI_1, nI_add, pk_mul, lit_4, lit_16, le_T, le_F, lt_T, lt_F, eq_T, eq_F, le_T0, le_F0, lt_F0, lt_T0, eq_T0, eq_F0, eqm_F, up_s2, up_n2, Ev_some, nz_0, nz_1, if_true, if_false, reduceIte, and_true, true_and, and_false, false_and, b2_0, b2_1, Bool.true_eq_false, Bool.false_eq_true, not_true_eq_false, not_false_eq_true]; exact r_no h (by decide) n1
  | true =>
    obtain ⟨w, hw, rfl⟩ := inB_of (by omega) hx
    obtain ⟨a1, a2, a3⟩ := g2.2.2.2.2.2 w (by omega)
    have a1' : σ 14 w = τ 112 w := a1
    have a2' : σ 15 w = τ 113 w := a2
    have a3' : σ 16 w = τ 114 w := a3
    simp (disch := omega) only [rdN, wrN, rdZ, wrZ, p_put_eq, call_some, nzN, boN, nI_1, nI_add, pk_mul, lit_4, lit_16, le_T, le_F, lt_T, lt_F, eq_T, eq_F, le_T0, le_F0, lt_F0, lt_T0, eq_T0, eq_F0, eqm_F, up_s2, up_n2, Ev_some, nz_0, nz_1, if_true, if_false, reduceIte, and_true, true_and, and_false, false_and, b2_0, b2_1, Bool.true_eq_false, Bool.false_eq_true, not_true_eq_false, not_false_eq_true]
    by_cases y0 : y = 0
    · rw [if_pos y0, if_pos y0]; exact Rl.of rfl (by rw [a1']) h
    rw [if_neg y0, if_neg y0]
    by_cases y1 : y = 1
    · rw [if_pos y1, if_pos y1]; exact Rl.of rfl (by rw [a2']) h
    rw [if_neg y1, if_neg y1]
    by_cases y2 : y = 2
    · rw [if_pos y2, if_pos y2]
      refine Rl.of rfl ?_ h
      have e : ∀ q, q < 16 → σ 10 q = τ 110 q := fun q hq => (g2.2.2.2.1 q hq).2.2.1
      rw [← sm_fl (g := fun q => decide (τ 110 q = nI w)) g1 g2, sm_congr 16 0 (fun q _ hq => by rw [← e q (by omega)])]
    rw [if_neg y2, if_neg y2]
    by_cases y3 : y = 3
    · rw [if_pos y3, if_pos y3]; exact Rl.of rfl (by rw [a3']) h
    rw [if_neg y3, if_neg y3]
    exact r_no h (by decide) n2
theorem r_laid {x y : Int32} (h : Inv i σ τ) : Rl i (f_X10_laid 0 x y σ) (f_X11_laid 103 x y τ) := by
  obtain ⟨⟨r, c, g1, g2, g3⟩, -⟩ := id h
  have hrc := g1.rc
  unfold f_X10_laid f_X11_laid f_X10_laid_b23
  simp (disch := omega) only [rdN, wrN, rdZ, wrZ, p_put_eq, call_some, nzN, boN, nI_1, nI_add, pk_mul, lit_4, lit_16, le_T, le_F, lt_T, lt_F, eq_T, eq_F, le_T0, le_F0, lt_F0, lt_T0, eq_T0, eq_F0, eqm_F, up_s2, up_n2, Ev_some, nz_0, nz_1, if_true, if_false, reduceIte, and_true, true_and, and_false, false_and, b2_0, b2_1, Bool.true_eq_false, Bool.false_eq_true, not_true_eq_false, not_false_eq_true, w_isCell g2, v_isCell g1, v_three]
  cases hx : inB (r * c) x with
  | false => simp (disch := omega) only [rdN, wrN, rdZ, wrZ, p_put_eq, call_some, nzN, boN, nI_1, nI_add, pk_mul, lit_4, lit_16, le_T, le_F, lt_T, lt_F, eq_T, eq_F, le_T0, le_F0, lt_F0, lt_T0, eq_T0, eq_F0, eqm_F, up_s2, up_n2, Ev_some, nz_0, nz_1, if_true, if_false, reduceIte, and_true, true_and, and_false, false_and, b2_0, b2_1, Bool.true_eq_false, Bool.false_eq_true, not_true_eq_false, not_false_eq_true]; exact r_no h (by decide) n1
  | true =>
    obtain ⟨q, hq, rfl⟩ := inB_of (by omega) hx
    have hq' : q < 16 := by omega
    obtain ⟨a1, a2, a3, -⟩ := g2.2.2.2.1 q hq'
    have a1' : σ 8 q = τ 108 q := a1
    have a2' : σ 9 q = τ 109 q := a2
    have a3' : σ 10 q = τ 110 q := a3
    simp (disch := omega) only [rdN, wrN, rdZ, wrZ, p_put_eq, call_some, nzN, boN, nI_1, nI_add, pk_mul, lit_4, lit_16, le_T, le_F, lt_T, lt_F, eq_T, eq_F, le_T0, le_F0, lt_F0, lt_T0, eq_T0, eq_F0, eqm_F, up_s2, up_n2, Ev_some, nz_0, nz_1, if_true, if_false, reduceIte, and_true, true_and, and_false, false_and, b2_0, b2_1, Bool.true_eq_false, Bool.false_eq_true, not_true_eq_false, not_false_eq_true, x_isFilled hq']
    have e0 : ∀ A B : Rs, (if y < 0 then A else if y ≤ 2 then B else A) = if inB 3 y = true then B else A := fun A B => by
      rw [← x_two (σ := σ) (m := 3)]
      by_cases y0 : y < 0
      · rw [if_pos y0, if_pos y0]
      · rw [if_neg y0, if_neg y0]
        have := le_lt 2 (x := y) (by decide)
        by_cases y2 : y ≤ 2
        · rw [if_pos y2, if_neg (Int32.not_le.mpr (cast this y2))]
        · rw [if_neg y2, if_pos (Int32.not_lt.mp (fun u => y2 (cast this.symm u)))]
    rw [e0]
    cases hy : inB 3 y with
    | false => simp (disch := omega) only [rdN, wrN, rdZ, wrZ, p_put_eq, call_some, nzN, boN, nI_1, nI_add, pk_mul, lit_4, lit_16, le_T, le_F, lt_T, lt_F, eq_T, eq_F, le_T0, le_F0, lt_F0, lt_T0, eq_T0, eq_F0, eqm_F, up_s2, up_n2, Ev_some, nz_0, nz_1, if_true, if_false, reduceIte, and_true, true_and, and_false, false_and, b2_0, b2_1, Bool.true_eq_false, Bool.false_eq_true, not_true_eq_false, not_false_eq_true]; exact r_no h (by decide) n2
    | true =>
      simp (disch := omega) only [rdN, wrN, rdZ, wrZ, p_put_eq, call_some, nzN, boN, nI_1, nI_add, pk_mul, lit_4, lit_16, le_T, le_F, lt_T, lt_F, eq_T, eq_F, le_T0, le_F0, lt_F0, lt_T0, eq_T0, eq_F0, eqm_F, up_s2, up_n2, Ev_some, nz_0, nz_1, if_true, if_false, reduceIte, and_true, true_and, and_false, false_and, b2_0, b2_1, Bool.true_eq_false, Bool.false_eq_true, not_true_eq_false, not_false_eq_true]
      have ef : fl (σ 8) q = flR (τ 108) q := by
        have : fl (τ 108) q = flR (τ 108) q := fl_R g1 hq'
        rw [← this]
        unfold fl
        rw [a1']
      rw [ef]
      unfold flR
      by_cases hl : τ 108 q < 0
      · rw [if_pos (by simp [hl]), if_neg (Int32.not_le.mpr hl)]
        exact Rl.of rfl rfl h
      · rw [if_neg (by simp [hl]), if_pos (Int32.not_lt.mp hl)]
        by_cases y0 : y = 0
        · rw [if_pos y0, if_pos y0]; exact Rl.of rfl (by rw [a1']) h
        rw [if_neg y0, if_neg y0]
        by_cases y1 : y = 1
        · rw [if_pos y1, if_pos y1]; exact Rl.of rfl (by rw [a2']) h
        rw [if_neg y1, if_neg y1]
        exact Rl.of rfl (by rw [a3']) h
end RD
