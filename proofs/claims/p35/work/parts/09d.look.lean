/-! more calls that only look: fits, ways, seems, wrong, over, balances -/
section RE
variable {i : Nat} {σ τ : Sg}
theorem Xs.up {σ υ : Sg} {k j : Nat} {v : Int32} (h : Xs σ υ) (hk : (17 ≤ k ∧ k < 33) ∨ (49 ≤ k ∧ k < 55) ∨ (60 ≤ k ∧ k < 66) ∨ (72 ≤ k ∧ k < 102)) : Xs σ (sg_up υ k j v) := fun a x y z w => by
  rw [up_a (by omega)]
  exact h a x y z w
theorem Xs.of {σ υ : Sg} {a b : Nat} (h : Fr a b σ υ) (hk : (17 ≤ a ∧ b < 33) ∨ (49 ≤ a ∧ b < 55) ∨ (60 ≤ a ∧ b < 66) ∨ (72 ≤ a ∧ b < 102)) : Xs σ υ := fun x p q u w => h x (by omega)
theorem r_fits {x y z : Int32} (h : Inv i σ τ) : Rl i (f_X10_fits 0 x y z σ) (f_X11_fits 103 x y z τ) := by
  obtain ⟨⟨r, c, g1, g2, g3⟩, -⟩ := id h
  have hrc := g1.rc
  have h1 := g1.1.2.2.1
  have h2 := g1.1.2.2.2
  unfold f_X10_fits f_X11_fits f_X10_fits_b16 f_X11_fits_b16
  simp (disch := omega) only [rdN, wrN, rdZ, wrZ, p_put_eq, call_some, nzN, boN, nI_1, nI_add, pk_mul, lit_4, lit_16, le_T, le_F, lt_T, lt_F, eq_T, eq_F, le_T0, le_F0, lt_F0, lt_T0, eq_T0, eq_F0, eqm_F, up_s2, up_n2, Ev_some, nz_0, nz_1, if_true, if_false, reduceIte, and_true, true_and, and_false, false_and, b2_0, b2_1, Bool.true_eq_false, Bool.false_eq_true, not_true_eq_false, not_false_eq_true, w_isCell g2, v_isCell g1, w_isTurn, v_turn]
  cases hx : inB (r * c) x with
  | false => simp (disch := omega) only [rdN, wrN, rdZ, wrZ, p_put_eq, call_some, nzN, boN, nI_1, nI_add, pk_mul, lit_4, lit_16, le_T, le_F, lt_T, lt_F, eq_T, eq_F, le_T0, le_F0, lt_F0, lt_T0, eq_T0, eq_F0, eqm_F, up_s2, up_n2, Ev_some, nz_0, nz_1, if_true, if_false, reduceIte, and_true, true_and, and_false, false_and, b2_0, b2_1, Bool.true_eq_false, Bool.false_eq_true, not_true_eq_false, not_false_eq_true]; exact r_no h (by decide) n1
  | true =>
    simp (disch := omega) only [rdN, wrN, rdZ, wrZ, p_put_eq, call_some, nzN, boN, nI_1, nI_add, pk_mul, lit_4, lit_16, le_T, le_F, lt_T, lt_F, eq_T, eq_F, le_T0, le_F0, lt_F0, lt_T0, eq_T0, eq_F0, eqm_F, up_s2, up_n2, Ev_some, nz_0, nz_1, if_true, if_false, reduceIte, and_true, true_and, and_false, false_and, b2_0, b2_1, Bool.true_eq_false, Bool.false_eq_true, not_true_eq_false, not_false_eq_true]
    cases hz : inB (r * c) z with
    | false => simp (disch := omega) only [rdN, wrN, rdZ, wrZ, p_put_eq, call_some, nzN, boN, nI_1, nI_add, pk_mul, lit_4, lit_16, le_T, le_F, lt_T, lt_F, eq_T, eq_F, le_T0, le_F0, lt_F0, lt_T0, eq_T0, eq_F0, eqm_F, up_s2, up_n2, Ev_some, nz_0, nz_1, if_true, if_false, reduceIte, and_true, true_and, and_false, false_and, b2_0, b2_1, Bool.true_eq_false, Bool.false_eq_true, not_true_eq_false, not_false_eq_true]; exact r_no h (by decide) n1
    | true =>
      simp (disch := omega) only [rdN, wrN, rdZ, wrZ, p_put_eq, call_some, nzN, boN, nI_1, nI_add, pk_mul, lit_4, lit_16, le_T, le_F, lt_T, lt_F, eq_T, eq_F, le_T0, le_F0, lt_F0, lt_T0, eq_T0, eq_F0, eqm_F, up_s2, up_n2, Ev_some, nz_0, nz_1, if_true, if_false, reduceIte, and_true, true_and, and_false, false_and, b2_0, b2_1, Bool.true_eq_false, Bool.false_eq_true, not_true_eq_false, not_false_eq_true]
      cases hy : inB 4 y with
      | false => simp (disch := omega) only [rdN, wrN, rdZ, wrZ, p_put_eq, call_some, nzN, boN, nI_1, nI_add, pk_mul, lit_4, lit_16, le_T, le_F, lt_T, lt_F, eq_T, eq_F, le_T0, le_F0, lt_F0, lt_T0, eq_T0, eq_F0, eqm_F, up_s2, up_n2, Ev_some, nz_0, nz_1, if_true, if_false, reduceIte, and_true, true_and, and_false, false_and, b2_0, b2_1, Bool.true_eq_false, Bool.false_eq_true, not_true_eq_false, not_false_eq_true]; exact r_no h (by decide) n2
      | true =>
        simp (disch := omega) only [rdN, wrN, rdZ, wrZ, p_put_eq, call_some, nzN, boN, nI_1, nI_add, pk_mul, lit_4, lit_16, le_T, le_F, lt_T, lt_F, eq_T, eq_F, le_T0, le_F0, lt_F0, lt_T0, eq_T0, eq_F0, eqm_F, up_s2, up_n2, Ev_some, nz_0, nz_1, if_true, if_false, reduceIte, and_true, true_and, and_false, false_and, b2_0, b2_1, Bool.true_eq_false, Bool.false_eq_true, not_true_eq_false, not_false_eq_true]
        obtain ⟨p, hp, rfl⟩ := inB_of (by omega) hx
        obtain ⟨t, ht, rfl⟩ := inB_of (by decide) hy
        obtain ⟨q, hq, rfl⟩ := inB_of (by omega) hz
        obtain ⟨_, υ, e1, f1, b1⟩ := x_copyB (σ := σ) (k := 49) (k1 := 7) (by decide) (g2.bob g1)
        obtain ⟨_, φ, e2, f2, t2, -, p2⟩ := x_takeAway (σ := υ) (k := 49) (p := p) (by omega)
        have X : Xs σ φ := (Xs.of f1 (by decide)).trans (Xs.of f2 (by decide))
        have hz' : CutOk φ 2 r c (τ 105) (τ 106) := g2.1.fr (fun j hj => X _ (by omega) (by omega) (by omega) (by omega))
        have cell : ∀ o, o < 16 → υ 50 o = τ 108 o ∧ υ 51 o = τ 109 o := fun o ho => by
          obtain ⟨u1, u2, -⟩ := b1 o ho
          obtain ⟨v1, v2, -⟩ := g2.2.2.2.1 o ho
          exact ⟨u1.trans v1, u2.trans v2⟩
        have hv : ∀ o, o < r * c → (φ 50 o = -1 ↔ υ 50 o < 0 ∨ υ 50 o = nI p) ∧ (φ 50 o = -1 ∨ φ 50 o = υ 50 o) := fun o ho => by
          have := p2 o (by omega)
          have e3 : φ 50 o = if υ 50 o = nI p then -1 else υ 50 o := this
          by_cases e : υ 50 o = nI p
          · rw [e3, if_pos e]; exact ⟨⟨fun _ => .inr e, fun _ => rfl⟩, .inl rfl⟩
          · rw [e3, if_neg e]
            refine ⟨⟨fun u => .inl (by rw [u]; decide), fun u => ?_⟩, .inr rfl⟩
            rcases u with u | u
            · rcases g1.2.2.1 o (by omega) with w | ⟨-, p', t', hp', -, w, -⟩
              · exact (cell o (by omega)).1.trans w
              · rw [(cell o (by omega)).1, show τ 108 o = nI p' from w] at u
                exact absurd u (nI_pos (by omega))
            · exact absurd u e
        have t2' : φ 51 = υ 51 := t2
        have bd : BdX φ 49 r c := fun o ho => by
          show φ 50 o = -1 ∨ ((∃ p, p < r * c ∧ φ 50 o = nI p) ∧ ∃ t, t < 4 ∧ φ 51 o = nI t)
          rcases (hv o ho).2 with e | e
          · exact .inl e
          · rw [e, t2', (cell o (by omega)).1, (cell o (by omega)).2]
            rcases g1.2.2.1 o (by omega) with w | ⟨-, p', t', hp', ht', w, w2⟩
            · exact .inl w
            · exact .inr ⟨⟨p', hp', w⟩, t', ht', w2⟩
        have e4 := x_isFit hz' bd hp ht hq
        have e5 : fitX (τ 105) (τ 106) (φ 50) (φ 51) r c p t q = fit (τ 105) (τ 106) (τ 108) (τ 109) r c p t q := by
          rw [fitX_eq (pc := υ 50) h1 h2 hq hv, t2']
          exact fit_congr h1 h2 hq (fun o ho => ⟨(cell o (by omega)).1, .inr (cell o (by omega)).2⟩)
        have e6 := y_doesFit g1.sz g1.bd hp ht hq
        rw [e1, call_some, e2, call_some, e4, call_some, e6, call_some]
        show Rl i (if b2 (fitX (τ 105) (τ 106) (φ 50) (φ 51) r c p t q) = 0 then _ else _) (if b2 (fit (τ 105) (τ 106) (τ 108) (τ 109) r c p t q) = 0 then _ else _)
        rw [e5]
        cases fit (τ 105) (τ 106) (τ 108) (τ 109) r c p t q
        · exact Rl.of rfl rfl (h.sc X Ms.refl)
        · exact Rl.of rfl rfl (h.sc X Ms.refl)
theorem FRs.ms {τ υ : Sg} {E D : Nat → Bool} (h : FRs τ υ 103 E D) (h1 : E 104 = false ∧ E 115 = false ∧ E 126 = false) (h2 : D 21 = false ∧ D 25 = false ∧ D 39 = false) : Ms τ υ := by
  obtain ⟨a1, a2, a3, a4, a5, a6⟩ := h
  refine ⟨⟨a1 _ (by decide) (by decide) (by decide) h1.1, a1 _ (by decide) (by decide) (by decide) h1.2.1, a1 _ (by decide) (by decide) (by decide) h1.2.2⟩, ⟨a2 _ (by decide) (by decide) (by decide) h2.1, a2 _ (by decide) (by decide) (by decide) h2.2.1, a2 _ (by decide) (by decide) (by decide) h2.2.2⟩, a3, fun j hj i hi => ?_, fun j hj hj2 i hi => ?_, fun i hi => a6 i (by omega)⟩
  · have := a4 j hj i hi
    rcases j7 hj with rfl | rfl | rfl | rfl | rfl | rfl | rfl <;> exact this
  · rcases (show j = 7 ∨ j = 8 ∨ j = 9 by omega) with rfl | rfl | rfl
    · exact a5 0 (by decide) i hi
    · exact a5 1 (by decide) i hi
    · exact a5 2 (by decide) i hi
/-- after both have gone through the ways -/
theorem r_go (h : Inv i σ τ) : ∃ (r c : Nat) (σ' τ' : Sg) (a b : Int32), GOk (gM τ) r c (60 * i) ∧ f_X6_goThrough 59 2 σ = some (a, σ') ∧ f_X11_findWays 103 τ = some (b, τ') ∧ Inv i σ' τ' ∧ CS σ' 59 (r * c) (allW (τ 105) (τ 106) r c) ∧ RS τ' 103 (r * c) (allW (τ 105) (τ 106) r c) := by
  obtain ⟨h1, h2, h3, h4, h5⟩ := Inv.iff.mp h
  obtain ⟨r, c, g1, g2, g3⟩ := h1
  obtain ⟨a, σ', e1, f1, f2, f3⟩ := x_goThrough (k := 59) (k1 := 2) (by decide) g2.1 g3
  obtain ⟨b, τ', e2, f4, f5⟩ := y_findWays (k := 103) g1.sz
  have hM : Ms τ τ' := f4.ms (by decide) (by decide)
  refine ⟨r, c, σ', τ', a, b, g1, e1, e2, ?_, f3, f5⟩
  obtain ⟨⟨m1, m2, m3⟩, ⟨m4, m5, m6⟩, m7, m8⟩ := hM
  refine Inv.iff.mpr ⟨⟨r, c, g1.cg m8, (g2.cg m8).fr (fun j _ _ => f1 _ (by omega)), .inr ⟨f2, ?_⟩⟩, h2.fr (fun a _ _ => f1 a (by omega)) (by rw [f1 0 (by decide)]) m5 m7, h3.fr (by rw [f1 55 (by decide)]) (f1 56 (by decide)) m4 m2, h4.fr (by rw [f1 57 (by decide)]) (f1 58 (by decide)) m6 m3, h5.fr (f1 102 (by decide)) m1⟩
  unfold Known
  rw [allW_cg g1.1.2.2.1 g1.1.2.2.2 (fun q hq => ⟨m8.1 0 (by decide) q hq, m8.1 1 (by decide) q hq⟩)]
  exact f3
theorem x_two2 {y : Int32} (A B : Rs) : (if y < 0 then A else if y ≤ 1 then B else A) = if inB 2 y = true then B else A := by
  rw [← x_two (σ := fun _ _ => 0) (m := 2)]
  by_cases y0 : y < 0
  · rw [if_pos y0, if_pos y0]
  · rw [if_neg y0, if_neg y0]
    have := le_lt 1 (x := y) (by decide)
    by_cases y2 : y ≤ 1
    · rw [if_pos y2, if_neg (Int32.not_le.mpr (cast this y2))]
    · rw [if_neg y2, if_pos (Int32.not_lt.mp (fun u => y2 (cast this.symm u)))]
theorem r_ways {x : Int32} (h : Inv i σ τ) : Rl i (f_X10_ways 0 x σ) (f_X11_ways 103 x τ) := by
  unfold f_X10_ways f_X11_ways f_X10_ways_b9
  rw [v_two, call_some, x_two2]
  cases hx : inB 2 x with
  | false => simp (disch := omega) only [rdN, wrN, rdZ, wrZ, p_put_eq, call_some, nzN, boN, nI_1, nI_add, pk_mul, lit_4, lit_16, le_T, le_F, lt_T, lt_F, eq_T, eq_F, le_T0, le_F0, lt_F0, lt_T0, eq_T0, eq_F0, eqm_F, up_s2, up_n2, Ev_some, nz_0, nz_1, if_true, if_false, reduceIte, and_true, true_and, and_false, false_and, b2_0, b2_1, Bool.true_eq_false, Bool.false_eq_true, not_true_eq_false, not_false_eq_true]; exact r_no h (by decide) n2
  | true =>
    simp (disch := omega) only [rdN, wrN, rdZ, wrZ, p_put_eq, call_some, nzN, boN, nI_1, nI_add, pk_mul, lit_4, lit_16, le_T, le_F, lt_T, lt_F, eq_T, eq_F, le_T0, le_F0, lt_F0, lt_T0, eq_T0, eq_F0, eqm_F, up_s2, up_n2, Ev_some, nz_0, nz_1, if_true, if_false, reduceIte, and_true, true_and, and_false, false_and, b2_0, b2_1, Bool.true_eq_false, Bool.false_eq_true, not_true_eq_false, not_false_eq_true]
    obtain ⟨r, c, σ', τ', a, b, g1, e1, e2, hI, hC, hR⟩ := r_go h
    simp (disch := omega) only [rdN, wrN, rdZ, wrZ, p_put_eq, call_some, nzN, boN, nI_1, nI_add, pk_mul, lit_4, lit_16, le_T, le_F, lt_T, lt_F, eq_T, eq_F, le_T0, le_F0, lt_F0, lt_T0, eq_T0, eq_F0, eqm_F, up_s2, up_n2, Ev_some, nz_0, nz_1, if_true, if_false, reduceIte, and_true, true_and, and_false, false_and, b2_0, b2_1, Bool.true_eq_false, Bool.false_eq_true, not_true_eq_false, not_false_eq_true, e1, e2, hC.1, hC.2.1, hR.1, hR.2.1]
    by_cases h1 : x = 1
    · rw [if_pos h1, if_pos h1]; exact Rl.of rfl rfl hI
    rw [if_neg h1, if_neg h1]
    by_cases h2 : nI (allW (τ 105) (τ 106) r c).1 ≤ 20000
    · rw [if_pos h2, if_pos h2]; exact Rl.of rfl rfl hI
    · rw [if_neg h2, if_neg h2]; exact Rl.of rfl rfl hI
theorem r_first {x y : Int32} (h : Inv i σ τ) : Rl i (f_X10_first 0 x y σ) (f_X11_first 103 x y τ) := by
  obtain ⟨⟨r0, c0, g1, g2, g3⟩, -⟩ := id h
  have hrc := g1.rc
  unfold f_X10_first f_X11_first f_X10_first_b23
  simp (disch := omega) only [rdN, wrN, rdZ, wrZ, p_put_eq, call_some, nzN, boN, nI_1, nI_add, pk_mul, lit_4, lit_16, le_T, le_F, lt_T, lt_F, eq_T, eq_F, le_T0, le_F0, lt_F0, lt_T0, eq_T0, eq_F0, eqm_F, up_s2, up_n2, Ev_some, nz_0, nz_1, if_true, if_false, reduceIte, and_true, true_and, and_false, false_and, b2_0, b2_1, Bool.true_eq_false, Bool.false_eq_true, not_true_eq_false, not_false_eq_true, w_isCell g2, v_isCell g1, v_two]
  cases hx : inB (r0 * c0) x with
  | false => simp (disch := omega) only [rdN, wrN, rdZ, wrZ, p_put_eq, call_some, nzN, boN, nI_1, nI_add, pk_mul, lit_4, lit_16, le_T, le_F, lt_T, lt_F, eq_T, eq_F, le_T0, le_F0, lt_F0, lt_T0, eq_T0, eq_F0, eqm_F, up_s2, up_n2, Ev_some, nz_0, nz_1, if_true, if_false, reduceIte, and_true, true_and, and_false, false_and, b2_0, b2_1, Bool.true_eq_false, Bool.false_eq_true, not_true_eq_false, not_false_eq_true]; exact r_no h (by decide) n1
  | true =>
    simp (disch := omega) only [rdN, wrN, rdZ, wrZ, p_put_eq, call_some, nzN, boN, nI_1, nI_add, pk_mul, lit_4, lit_16, le_T, le_F, lt_T, lt_F, eq_T, eq_F, le_T0, le_F0, lt_F0, lt_T0, eq_T0, eq_F0, eqm_F, up_s2, up_n2, Ev_some, nz_0, nz_1, if_true, if_false, reduceIte, and_true, true_and, and_false, false_and, b2_0, b2_1, Bool.true_eq_false, Bool.false_eq_true, not_true_eq_false, not_false_eq_true]
    rw [x_two2]
    cases hy : inB 2 y with
    | false => simp (disch := omega) only [rdN, wrN, rdZ, wrZ, p_put_eq, call_some, nzN, boN, nI_1, nI_add, pk_mul, lit_4, lit_16, le_T, le_F, lt_T, lt_F, eq_T, eq_F, le_T0, le_F0, lt_F0, lt_T0, eq_T0, eq_F0, eqm_F, up_s2, up_n2, Ev_some, nz_0, nz_1, if_true, if_false, reduceIte, and_true, true_and, and_false, false_and, b2_0, b2_1, Bool.true_eq_false, Bool.false_eq_true, not_true_eq_false, not_false_eq_true]; exact r_no h (by decide) n2
    | true =>
      simp (disch := omega) only [rdN, wrN, rdZ, wrZ, p_put_eq, call_some, nzN, boN, nI_1, nI_add, pk_mul, lit_4, lit_16, le_T, le_F, lt_T, lt_F, eq_T, eq_F, le_T0, le_F0, lt_F0, lt_T0, eq_T0, eq_F0, eqm_F, up_s2, up_n2, Ev_some, nz_0, nz_1, if_true, if_false, reduceIte, and_true, true_and, and_false, false_and, b2_0, b2_1, Bool.true_eq_false, Bool.false_eq_true, not_true_eq_false, not_false_eq_true]
      obtain ⟨q, hq, rfl⟩ := inB_of (by omega) hx
      obtain ⟨r, c, σ', τ', a, b, g1', e1, e2, hI, hC, hR⟩ := r_go h
      have er : r = r0 := by
        have := g1'.1.1.symm.trans g1.1.1
        exact (nI_eq (by have := g1'.1.2.2.1; omega) (by have := g1.1.2.2.1; omega)).mp this
      have ec : c = c0 := by
        have := g1'.1.2.1.symm.trans g1.1.2.1
        exact (nI_eq (by have := g1'.1.2.2.2; omega) (by have := g1.1.2.2.2; omega)).mp this
      subst er ec
      have hle : Sle (0, 0, (fun _ => 0), (fun _ => 0)) (allW (τ 105) (τ 106) r c) := by
        obtain ⟨d, hd⟩ : ∃ d, r * c = d + 1 := ⟨r * c - 1, by omega⟩
        unfold allW
        rw [show sr (τ 105) (τ 106) r c (r * c) = sr (τ 105) (τ 106) r c (d + 1) by rw [hd], sr]
        exact sr_c_le (fun p t s' a b => sr_le d _ _ s' a b) _ _ _ (Nat.le_refl _) (by decide)
      have b1 : (allW (τ 105) (τ 106) r c).2.1 ≤ (allW (τ 105) (τ 106) r c).1 := hle.2.2
      have b2' : (allW (τ 105) (τ 106) r c).1 ≤ 20001 := hle.2.1
      simp (disch := omega) only [rdN, wrN, rdZ, wrZ, p_put_eq, call_some, nzN, boN, nI_1, nI_add, pk_mul, lit_4, lit_16, le_T, le_F, lt_T, lt_F, eq_T, eq_F, le_T0, le_F0, lt_F0, lt_T0, eq_T0, eq_F0, eqm_F, up_s2, up_n2, Ev_some, nz_0, nz_1, if_true, if_false, reduceIte, and_true, true_and, and_false, false_and, b2_0, b2_1, Bool.true_eq_false, Bool.false_eq_true, not_true_eq_false, not_false_eq_true, e1, e2, hC.2.1, hR.2.2.1]
      rcases Nat.eq_zero_or_pos (allW (τ 105) (τ 106) r c).2.1 with u | u
      · rw [if_pos (by rw [u]; rfl), if_pos (by rw [decide_eq_false (by omega)])]
        exact Rl.of rfl rfl hI
      · have hd : decide (0 < (allW (τ 105) (τ 106) r c).2.1) = true := decide_eq_true u
        simp (disch := omega) only [rdN, wrN, rdZ, wrZ, p_put_eq, call_some, nzN, boN, nI_1, nI_add, pk_mul, lit_4, lit_16, le_T, le_F, lt_T, lt_F, eq_T, eq_F, le_T0, le_F0, lt_F0, lt_T0, eq_T0, eq_F0, eqm_F, up_s2, up_n2, Ev_some, nz_0, nz_1, if_true, if_false, reduceIte, and_true, true_and, and_false, false_and, b2_0, b2_1, Bool.true_eq_false, Bool.false_eq_true, not_true_eq_false, not_false_eq_true, hd]
        obtain ⟨c1, c2⟩ := hC.2.2 u q hq
        obtain ⟨d1, d2⟩ := hR.2.2.2 u q hq
        by_cases y0 : y = 0
        · rw [if_pos y0, if_pos y0]
          exact Rl.of rfl (by rw [show τ' 122 q = _ from d1, show σ' 67 q = _ from c1]) hI
        · rw [if_neg y0, if_neg y0]
          exact Rl.of rfl (by rw [show τ' 123 q = _ from d2, show σ' 68 q = _ from c2]) hI
theorem lost01 {r c B p : Nat} {G : Sg} (g1 : GOk G r c B) (hp : p < 16) : G 6 p = 0 ∨ G 6 p = 1 := by
  rcases g1.2.2.2.2.1 p hp with e | ⟨e, -⟩
  · exact .inl e
  · exact .inr e
theorem r_seems (h : Inv i σ τ) : Rl i (f_X10_seems 0 σ) (f_X11_seems 103 τ) := by
  obtain ⟨⟨r, c, g1, g2, g3⟩, -⟩ := id h
  have hrc := g1.rc
  unfold f_X10_seems f_X11_seems
  have e1 := x_seemingPairs (k := 91) (k2 := 7) g2.1
  have e2 := y_seemsOf g1.sz
  have e3 : semX (τ 105) (τ 106) (σ 12) r c = semV (τ 105) (τ 106) (τ 111) r c := sem_eq (fun p hp => ⟨(g2.2.2.2.1 p (by omega)).2.2.2.2, lost01 g1 (by omega)⟩)
  exact Rl.of (v := semV (τ 105) (τ 106) (τ 111) r c) (by rw [show f_X5_seemingPairs (0 + 91) (0 + 1 + 1) (0 + 1 + 6) σ = some (semX (τ 105) (τ 106) (σ 12) r c, σ) from e1, e3]; rfl) (by rw [e2]; rfl) h
theorem own_eq {r c q : Nat} (g2 : GameOk σ 1 (gM τ) r c) (hq : q < 16) : own (σ 8) (σ 9) q = own (τ 108) (τ 109) q := by
  obtain ⟨a1, a2, -⟩ := g2.2.2.2.1 q hq
  unfold own
  rw [show σ 8 q = τ 108 q from a1, show σ 9 q = τ 109 q from a2]
theorem r_wrong (h : Inv i σ τ) : Rl i (f_X10_wrong 0 σ) (f_X11_wrong 103 τ) := by
  obtain ⟨⟨r, c, g1, g2, g3⟩, -⟩ := id h
  have hrc := g1.rc
  refine Rl.of (x_wrong (k := 0) g2.1) ?_ h
  rw [y_wrong g1.sz]
  congr 2
  exact sm_congr _ _ (fun q _ hq => by rw [show own (σ (0 + 1 + 6 + 1)) (σ (0 + 1 + 6 + 2)) q = own (τ 108) (τ 109) q from own_eq g2 (by omega)])
theorem flx {r c q : Nat} (g1 : GOk (gM τ) r c (60 * i)) (g2 : GameOk σ 1 (gM τ) r c) (hq : q < 16) : fl (σ 8) q = flR (τ 108) q := by
  have : fl (τ 108) q = flR (τ 108) q := fl_R g1 hq
  rw [← this]
  unfold fl
  rw [show σ 8 q = τ 108 q from (g2.2.2.2.1 q hq).1]
theorem r_falseOne (h : Inv i σ τ) : Rl i (f_X10_falseOne 0 σ) (f_X11_falseOne 103 τ) := by
  obtain ⟨⟨r, c, g1, g2, g3⟩, -⟩ := id h
  have hrc := g1.rc
  refine Rl.of (x_falseOne (k := 0) g2.1) ?_ h
  rw [y_falseOne g1.sz]
  congr 3
  exact ff_congr _ _ (fun q _ hq => by rw [show own (σ (0 + 1 + 6 + 1)) (σ (0 + 1 + 6 + 2)) q = own (τ 108) (τ 109) q from own_eq g2 (by omega), show fl (σ (0 + 1 + 6 + 1)) q = flR (τ 108) q from flx g1 g2 (by omega)])
theorem aw_eq {r c p : Nat} (g1 : GOk (gM τ) r c (60 * i)) (g2 : GameOk σ 1 (gM τ) r c) (hp : p < 16) : aw (σ 11) (σ 12) p = (laidB (τ 108) (r * c) (nI p) || decide (τ 111 p = 1)) := by
  obtain ⟨-, -, -, a4, a5⟩ := g2.2.2.2.1 p hp
  unfold aw
  rw [show σ 11 p = b2 (laidB (τ 108) (r * c) (nI p)) from a4, show σ 12 p = τ 111 p from a5]
  have : τ 111 p = 0 ∨ τ 111 p = 1 := lost01 g1 hp
  rcases this with e | e <;> rw [e] <;> cases laidB (τ 108) (r * c) (nI p) <;> decide
/-- on a board without p the class's fit is the reference's -/
theorem fit_free {r c p t q : Nat} {G : Sg} {B : Nat} {pc tn : Nat → Int32} (g1 : GOk G r c B) (he : ∀ o, o < 16 → pc o = G 3 o ∧ tn o = G 4 o) (hq : q < r * c) (hf : laidB (G 3) (r * c) (nI p) = false) (hp : p < 16) : fitX (G 0) (G 1) pc tn r c p t q = fit (G 0) (G 1) (G 3) (G 4) r c p t q := by
  have hrc := g1.rc
  have h1 := g1.1.2.2.1
  have h2 := g1.1.2.2.2
  rw [fitX_eq (pc := pc) h1 h2 hq (fun o ho => ⟨?_, .inr rfl⟩)]
  · exact fit_congr h1 h2 hq (fun o ho => ⟨(he o (by omega)).1, .inr (he o (by omega)).2⟩)
  · rw [(he o (by omega)).1]
    rcases g1.2.2.1 o (by omega) with w | ⟨-, p', t', hp', ht', w, w2⟩
    · rw [w]; exact ⟨fun _ => .inl (by decide), fun _ => rfl⟩
    · refine ⟨fun u => absurd (w.symm.trans u) (nI_nm1 (by omega)), fun u => ?_⟩
      rcases u with u | u
      · rw [w] at u; exact absurd u (nI_pos (by omega))
      · rw [laidB_iff.mpr ⟨o, ho, u⟩] at hf; cases hf
theorem r_over (h : Inv i σ τ) : Rl i (f_X10_over 0 σ) (f_X11_over 103 τ) := by
  obtain ⟨⟨r, c, g1, g2, g3⟩, -⟩ := id h
  have hrc := g1.rc
  refine Rl.of (x_over (k := 0) g2.1 (g2.bdx g1)) ?_ h
  rw [y_over g1.sz g1.bd]
  congr 3
  refine ff_congr _ _ (fun p _ hp => ?_)
  show ovr (τ 105) (τ 106) (τ 108) (τ 109) (τ 111) r c p = (!(aw (σ 11) (σ 12) p) && !(fsX (τ 105) (τ 106) (σ 8) (σ 9) r c p))
  rw [aw_eq g1 g2 (by omega)]
  unfold ovr
  have l01 : τ 111 p = 0 ∨ τ 111 p = 1 := lost01 g1 (by omega)
  cases hl : laidB (τ 108) (r * c) (nI p) with
  | true => simp
  | false =>
    have e : fsX (τ 105) (τ 106) (σ 8) (σ 9) r c p = fsw (τ 105) (τ 106) (τ 108) (τ 109) r c p := by
      unfold fsX fsw
      congr 1
      refine ff_congr _ _ (fun q _ hq => ?_)
      show (!(fl (σ 8) q) && (ff (fun t => fitX (τ 105) (τ 106) (σ 8) (σ 9) r c p t q) 0 4).isSome) = (ff (fun t => !(flR (τ 108) q) && fit (τ 105) (τ 106) (τ 108) (τ 109) r c p t q) 0 4).isSome
      rw [flx g1 g2 (show q < 16 by omega), ff_congr (p := fun t => fitX (τ 105) (τ 106) (σ 8) (σ 9) r c p t q) (q := fun t => fit (τ 105) (τ 106) (τ 108) (τ 109) r c p t q) 4 0 (fun t _ _ => fit_free (pc := σ 8) (tn := σ 9) g1 (fun o ho => ⟨(g2.2.2.2.1 o ho).1, (g2.2.2.2.1 o ho).2.1⟩) (by omega) hl (by omega))]
      cases flR (τ 108) q
      · simp
      · simp [ff]
    rw [e]
    rcases l01 with w | w <;> rw [w] <;> cases fsw (τ 105) (τ 106) (τ 108) (τ 109) r c p <;> decide
theorem r_lacks (h : Inv i σ τ) : Rl i (f_X10_lacks 0 σ) (f_X11_lacks 103 τ) := by
  obtain ⟨⟨r, c, g1, g2, g3⟩, -⟩ := id h
  have hrc := g1.rc
  obtain ⟨_, υ, e1, f1, f2⟩ := x_weigh (k := 91) (k1 := 1) g2.1 g1.2.1 (by decide)
  have X : Xs σ υ := Xs.of f1 (by decide)
  unfold f_X10_lacks f_X11_lacks
  rw [show f_X5_weigh (0 + 91) (0 + 1) σ = _ from e1, call_some, x_isShort, call_some, y_doesLack g1.sz, call_some]
  have hl : ∀ p, p < r * c → σ 12 p = τ 111 p := fun p hp => (g2.2.2.2.1 p (by omega)).2.2.2.2
  have ef : ∀ j, balF (τ 105) (τ 106) (σ 12) r c j = balF (τ 105) (τ 106) (τ 111) r c j := fun j => sm_congr _ _ (fun p _ hp => by rw [hl p (by omega)])
  have es : shB (υ (0 + 91 + 1)) (υ (0 + 91 + 2)) = lackB (τ 105) (τ 106) (τ 111) r c := sh_eq g1.1.2.2.1 g1.1.2.2.2 (fun j hj => ⟨(f2 j hj).1, (f2 j hj).2.trans (ef j)⟩)
  rw [es]
  show Rl i _ (if b2 (lackB (τ 105) (τ 106) (τ 111) r c) = 0 then _ else _)
  cases lackB (τ 105) (τ 106) (τ 111) r c
  · exact Rl.of rfl rfl (h.sc X Ms.refl)
  · exact Rl.of rfl rfl (h.sc X Ms.refl)
theorem r_which (h : Inv i σ τ) : Rl i (f_X10_which 0 σ) (f_X11_which 103 τ) := by
  obtain ⟨⟨r, c, g1, g2, g3⟩, -⟩ := id h
  have hrc := g1.rc
  obtain ⟨_, υ, e1, f1, f2⟩ := x_weigh (k := 91) (k1 := 1) g2.1 g1.2.1 (by decide)
  have X : Xs σ υ := Xs.of f1 (by decide)
  have hl : ∀ p, p < r * c → σ 12 p = τ 111 p := fun p hp => (g2.2.2.2.1 p (by omega)).2.2.2.2
  have ef : ∀ j, balF (τ 105) (τ 106) (σ 12) r c j = balF (τ 105) (τ 106) (τ 111) r c j := fun j => sm_congr _ _ (fun p _ hp => by rw [hl p (by omega)])
  have es : shB (υ (0 + 91 + 1)) (υ (0 + 91 + 2)) = lackB (τ 105) (τ 106) (τ 111) r c := sh_eq g1.1.2.2.1 g1.1.2.2.2 (fun j hj => ⟨(f2 j hj).1, (f2 j hj).2.trans (ef j)⟩)
  unfold f_X10_which
  rw [show f_X5_weigh (0 + 91) (0 + 1) σ = _ from e1, call_some, x_isShort, call_some, y_which g1.sz, es]
  show Rl i _ (some (if lackB (τ 105) (τ 106) (τ 111) r c = true then bitsV (susB (τ 105) (τ 106) (τ 111) r c) 0 (r * c) 0 else 0, τ))
  cases lackB (τ 105) (τ 106) (τ 111) r c
  · exact Rl.of rfl rfl (h.sc X Ms.refl)
  · have hz' : CutOk υ 2 r c (τ 105) (τ 106) := g2.1.fr (fun j hj => X _ (by omega) (by omega) (by omega) (by omega))
    obtain ⟨b, φ, e2, f3, f4⟩ := x_suspects (k := 91) (k1 := 2) (lo := τ 111) hz' g1.2.1 (by decide) (fun j hj => ⟨(f2 j hj).1, (f2 j hj).2.trans (ef j)⟩)
    rw [if_neg (by decide), show f_X5_suspects (0 + 91) (0 + 1 + 1) υ = _ from e2, call_some, if_pos rfl, f4]
    exact Rl.of rfl rfl (h.sc (X.trans (Xs.of f3 (by decide))) Ms.refl)
theorem r_balance {x : Int32} (h : Inv i σ τ) : Rl i (f_X10_balance 0 x σ) (f_X11_balance 103 x τ) := by
  obtain ⟨⟨r, c, g1, g2, g3⟩, -⟩ := id h
  have hrc := g1.rc
  unfold f_X10_balance f_X11_balance f_X10_balance_b11
  rw [y_isIn, call_some]
  by_cases h1 : x < 1
  · rw [if_pos h1, decide_eq_false (Int32.not_le.mpr h1), if_pos (by rfl)]
    exact r_lo h (by decide) n1
  · rw [if_neg h1, decide_eq_true (Int32.not_lt.mp h1), Bool.true_and]
    by_cases h2 : x ≤ 9
    · rw [if_pos h2, decide_eq_true h2, if_neg (by decide)]
      have hx : inB 10 x = true := by
        unfold inB
        rw [decide_eq_true (Int32.le_trans (by decide) (Int32.not_lt.mp h1)), decide_eq_true (cast (le_lt 9 (by decide)) h2)]
        rfl
      obtain ⟨j, hj, rfl⟩ := inB_of (by decide) hx
      obtain ⟨_, υ, e1, f1, f2⟩ := x_weigh (k := 91) (k1 := 1) g2.1 g1.2.1 (by decide)
      have X : Xs σ υ := Xs.of f1 (by decide)
      have hl : ∀ p, p < r * c → σ 12 p = τ 111 p := fun p hp => (g2.2.2.2.1 p (by omega)).2.2.2.2
      have ef : ∀ j, balF (τ 105) (τ 106) (σ 12) r c j = balF (τ 105) (τ 106) (τ 111) r c j := fun j => sm_congr _ _ (fun p _ hp => by rw [hl p (by omega)])
      rw [show f_X5_weigh (0 + 91) (0 + 1) σ = _ from e1, call_some, rdN (by omega) (by decide), y_balanceOf g1.sz hj, call_some]
      refine Rl.of rfl ?_ (h.sc X Ms.refl)
      rw [show υ (0 + 91 + 2) j = _ from (f2 j hj).2.trans (ef j)]
    · rw [if_neg h2, decide_eq_false h2, if_pos (by rfl)]
      exact r_lo h (by decide) n1
end RE
