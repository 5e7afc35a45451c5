/-! tryIt, seconds, count -/
/-- both answer, not always alike -/
def Rw (i : Nat) (f g : Rs) : Prop := ∃ (v v' : Int32) (σ' τ' : Sg), f = some (v, σ') ∧ g = some (v', τ') ∧ Inv i σ' τ'
theorem Rl.w {i : Nat} {f g : Rs} (h : Rl i f g) : Rw i f g := by
  obtain ⟨v, σ', τ', a, b, e⟩ := h
  exact ⟨v, v, σ', τ', a, b, e⟩
theorem Rl.mono {i i' : Nat} {f g : Rs} (h : Rl i f g) (hi : i ≤ i') : Rl i' f g := by
  obtain ⟨v, σ', τ', a, b, e⟩ := h
  exact ⟨v, σ', τ', a, b, e.mono hi⟩
theorem Rw.mono {i i' : Nat} {f g : Rs} (h : Rw i f g) (hi : i ≤ i') : Rw i' f g := by
  obtain ⟨v, v', σ', τ', a, b, e⟩ := h
  exact ⟨v, v', σ', τ', a, b, e.mono hi⟩
theorem plain_le {d v : Nat} {cp cq : Int32} {rq : Bool} (hd : d < 5) (hv : v ≤ 9) : ∃ x, x ≤ 27 ∧ plainV (nI d) (nI v) cp cq rq = nI x := by
  have t1 : (nI v + 1) / 2 = nI ((v + 1) / 2) := by rw [nI_1, L2]; exact pk_div (by omega) (by decide) (by decide)
  have t2 : 2 * nI v = nI (2 * v) := pk_mul 2 v
  have t3 : 3 * nI v = nI (3 * v) := pk_mul 3 v
  have t4 : nI v + 2 = nI (v + 2) := nI_add v 2
  unfold plainV
  rw [t1, t2, t3, t4]
  rcases (show d = 0 ∨ d = 1 ∨ d = 2 ∨ d = 3 ∨ d = 4 by omega) with rfl | rfl | rfl | rfl | rfl
  · exact ⟨v, by omega, by rw [if_pos (by decide)]⟩
  · rw [if_neg (by decide), if_pos (by decide)]
    by_cases e : cp = cq
    · exact ⟨(v + 1) / 2, by omega, by rw [if_pos e]⟩
    · exact ⟨v, by omega, by rw [if_neg e]⟩
  · rw [if_neg (by decide), if_neg (by decide), if_pos (by decide)]
    cases rq
    · exact ⟨2 * v, by omega, rfl⟩
    · exact ⟨(v + 1) / 2, by omega, rfl⟩
  · rw [if_neg (by decide), if_neg (by decide), if_neg (by decide), if_pos (by decide)]
    by_cases e : cp = 3
    · exact ⟨3 * v, by omega, by rw [if_pos e]⟩
    · rw [if_neg e]
      by_cases e : cp = cq
      · exact ⟨(v + 1) / 2, by omega, by rw [if_pos e]⟩
      · exact ⟨v, by omega, by rw [if_neg e]⟩
  · rw [if_neg (by decide), if_neg (by decide), if_neg (by decide), if_neg (by decide)]
    exact ⟨v + 2, by omega, rfl⟩
theorem sec_le {d v r c p t q : Nat} {col ri dn pc tn : Nat → Int32} (hd : d < 5) (hv : v ≤ 9) : ∃ x, x ≤ 54 ∧ secV (nI d) (nI v) col ri dn pc tn r c p t q = nI x := by
  obtain ⟨x, hx, e⟩ := plain_le (cp := col p) (cq := col q) (rq := rim r c q) hd hv
  unfold secV
  rw [e]
  by_cases h : kindV ri dn pc tn r c p t q = 2
  · exact ⟨2 * x, by omega, by rw [if_pos h]; exact pk_mul 2 x⟩
  · exact ⟨x, by omega, by rw [if_neg h]⟩
section RH
variable {i : Nat} {σ τ : Sg}
theorem x_costOf {k r c p q w : Nat} {ri dn : Nat → Int32} {kd : Int32} (hz : CutOk σ (k + 1) r c ri dn) (hk : ∃ d, d < 5 ∧ σ (k + 12 + 1) w = nI d) (hw : w < 6) (hp : p < r * c) (hq : q < r * c) : f_X3_costOf k (nI w) (nI p) (nI q) kd σ = some (if kd = 2 then 2 * plainV (σ (k + 12 + 1) w) (σ (k + 12 + 2) w) (σ (k + 1 + 4) p) (σ (k + 1 + 4) q) (rim r c q) else plainV (σ (k + 12 + 1) w) (σ (k + 12 + 2) w) (σ (k + 1 + 4) p) (σ (k + 1 + 4) q) (rim r c q), σ) := (c_costOf hz hk hw hp hq).eq
theorem w_refTry {r c n : Nat} {x y z w : Int32} (g2 : GameOk σ 1 (gM τ) r c) (e2 : σ 13 0 = nI n) : f_X10_refusalOfTry 0 x y z w σ = some (if (inB n x && inB (r * c) y && inB (r * c) w) = true then (if inB 4 z = true then 0 else -2) else -1, σ) := by
  unfold f_X10_refusalOfTry
  simp (disch := omega) only [rdN, wrN, rdZ, wrZ, p_put_eq, call_some, nzN, boN, nI_1, nI_add, pk_mul, lit_4, lit_16, le_T, le_F, lt_T, lt_F, eq_T, eq_F, le_T0, le_F0, lt_F0, lt_T0, eq_T0, eq_F0, eqm_F, up_s2, up_n2, Ev_some, nz_0, nz_1, if_true, if_false, reduceIte, and_true, true_and, and_false, false_and, b2_0, b2_1, Bool.true_eq_false, Bool.false_eq_true, not_true_eq_false, not_false_eq_true, w_isPerson e2, w_isCell g2, w_isTurn]
  cases inB n x <;> cases inB (r * c) y <;> cases inB (r * c) w <;> cases inB 4 z <;> rfl
theorem r_seconds {x y z w : Int32} (h : Inv i σ τ) : Rw i (f_X10_seconds 0 x y z w σ) (f_X11_seconds 103 x y z w τ) := by
  obtain ⟨⟨r, c, g1, g2, g3⟩, -⟩ := id h
  have hrc := g1.rc
  obtain ⟨n, m6, e1, e2, e3⟩ := people g1 g2
  have N1 : Rw i (p_call (f_X10_refuse 0 (-1) σ) (fun v s => some (v, s))) (p_call (f_X11_no 103 (-1) τ) (fun v s => some (v, s))) := (r_no h (by decide) n1).w
  have N2 : Rw i (p_call (f_X10_refuse 0 (-2) σ) (fun v s => some (v, s))) (p_call (f_X11_no 103 (-2) τ) (fun v s => some (v, s))) := (r_no h (by decide) n2).w
  have N3 : Rw i (p_call (f_X10_refuse 0 (-3) σ) (fun v s => some (v, s))) (p_call (f_X11_no 103 (-3) τ) (fun v s => some (v, s))) := (r_no h (by decide) n3).w
  unfold f_X10_seconds f_X11_seconds f_X10_seconds_b35 f_X11_seconds_b25
  simp (disch := omega) only [rdN, wrN, rdZ, wrZ, p_put_eq, call_some, nzN, boN, nI_1, nI_add, pk_mul, lit_4, lit_16, le_T, le_F, lt_T, lt_F, eq_T, eq_F, le_T0, le_F0, lt_F0, lt_T0, eq_T0, eq_F0, eqm_F, up_s2, up_n2, Ev_some, nz_0, nz_1, if_true, if_false, reduceIte, and_true, true_and, and_false, false_and, b2_0, b2_1, Bool.true_eq_false, Bool.false_eq_true, not_true_eq_false, not_false_eq_true, w_refTry g2 e2, v_isPerson e1, v_isCell g1, v_turn]
  cases hx : inB n x with
  | false => simp (disch := omega) only [rdN, wrN, rdZ, wrZ, p_put_eq, call_some, nzN, boN, nI_1, nI_add, pk_mul, lit_4, lit_16, le_T, le_F, lt_T, lt_F, eq_T, eq_F, le_T0, le_F0, lt_F0, lt_T0, eq_T0, eq_F0, eqm_F, up_s2, up_n2, Ev_some, nz_0, nz_1, if_true, if_false, reduceIte, and_true, true_and, and_false, false_and, b2_0, b2_1, Bool.true_eq_false, Bool.false_eq_true, not_true_eq_false, not_false_eq_true, Bool.false_and, show ¬ (-1 : Int32) = 0 by decide]; exact N1
  | true =>
    cases hy : inB (r * c) y with
    | false => simp (disch := omega) only [rdN, wrN, rdZ, wrZ, p_put_eq, call_some, nzN, boN, nI_1, nI_add, pk_mul, lit_4, lit_16, le_T, le_F, lt_T, lt_F, eq_T, eq_F, le_T0, le_F0, lt_F0, lt_T0, eq_T0, eq_F0, eqm_F, up_s2, up_n2, Ev_some, nz_0, nz_1, if_true, if_false, reduceIte, and_true, true_and, and_false, false_and, b2_0, b2_1, Bool.true_eq_false, Bool.false_eq_true, not_true_eq_false, not_false_eq_true, Bool.false_and, Bool.and_false, show ¬ (-1 : Int32) = 0 by decide]; exact N1
    | true =>
      cases hw : inB (r * c) w with
      | false => simp (disch := omega) only [rdN, wrN, rdZ, wrZ, p_put_eq, call_some, nzN, boN, nI_1, nI_add, pk_mul, lit_4, lit_16, le_T, le_F, lt_T, lt_F, eq_T, eq_F, le_T0, le_F0, lt_F0, lt_T0, eq_T0, eq_F0, eqm_F, up_s2, up_n2, Ev_some, nz_0, nz_1, if_true, if_false, reduceIte, and_true, true_and, and_false, false_and, b2_0, b2_1, Bool.true_eq_false, Bool.false_eq_true, not_true_eq_false, not_false_eq_true, Bool.false_and, Bool.and_false, show ¬ (-1 : Int32) = 0 by decide]; exact N1
      | true =>
        cases hz : inB 4 z with
        | false => simp (disch := omega) only [rdN, wrN, rdZ, wrZ, p_put_eq, call_some, nzN, boN, nI_1, nI_add, pk_mul, lit_4, lit_16, le_T, le_F, lt_T, lt_F, eq_T, eq_F, le_T0, le_F0, lt_F0, lt_T0, eq_T0, eq_F0, eqm_F, up_s2, up_n2, Ev_some, nz_0, nz_1, if_true, if_false, reduceIte, and_true, true_and, and_false, false_and, b2_0, b2_1, Bool.true_eq_false, Bool.false_eq_true, not_true_eq_false, not_false_eq_true, Bool.and_true, show ¬ (-2 : Int32) = 0 by decide]; exact N2
        | true =>
          obtain ⟨u, hu, rfl⟩ := inB_of (by omega) hx
          obtain ⟨p, hp, rfl⟩ := inB_of (by omega) hy
          obtain ⟨q, hq, rfl⟩ := inB_of (by omega) hw
          obtain ⟨t, ht, rfl⟩ := inB_of (by decide) hz
          have hq' : q < 16 := by omega
          simp (disch := omega) only [rdN, wrN, rdZ, wrZ, p_put_eq, call_some, nzN, boN, nI_1, nI_add, pk_mul, lit_4, lit_16, le_T, le_F, lt_T, lt_F, eq_T, eq_F, le_T0, le_F0, lt_F0, lt_T0, eq_T0, eq_F0, eqm_F, up_s2, up_n2, Ev_some, nz_0, nz_1, if_true, if_false, reduceIte, and_true, true_and, and_false, false_and, b2_0, b2_1, Bool.true_eq_false, Bool.false_eq_true, not_true_eq_false, not_false_eq_true, Bool.and_true, x_isFilled hq', show ¬ (-3 : Int32) = 0 by decide]
          rw [show fl (σ 8) q = flR (τ 108) q from flx g1 g2 hq']
          have hd : ∃ d, d < 5 ∧ σ (1 + 12 + 1) u = nI d := by
            obtain ⟨d, d1, d2⟩ := (e3 u hu).1
            exact ⟨d, d1, (g2.2.2.2.2.2 u (by omega)).1.trans d2⟩
          have k1 := x_kindOf (k1 := 7) g2.1 (g2.bdx g1) hp ht hq
          have k3 := y_secondsOf g1.sz g1.bd (show u < 6 by omega) hp ht hq
          have k2 : ∀ kd, f_X3_costOf 1 (nI u) (nI p) (nI q) kd σ = _ := fun kd => x_costOf (kd := kd) g2.1 hd (by omega) hp hq
          unfold flR
          by_cases hl : τ 108 q < 0
          · rw [decide_eq_true hl, if_pos (by decide), if_pos hl, show f_X1_kindOf (0 + 1 + 1) (0 + 1 + 6) (nI p) (nI t) (nI q) σ = _ from k1, call_some, show ∀ kd, f_X3_costOf (0 + 1) (nI u) (nI p) (nI q) kd σ = _ from k2, call_some, k3, call_some]
            exact ⟨_, _, _, _, rfl, rfl, h⟩
          · rw [decide_eq_false hl, if_neg (by decide), if_neg hl]
            exact N3
theorem r_tryIt {x y z w : Int32} (h : Inv i σ τ) : Rl (i + 1) (f_X10_tryIt 0 x y z w σ) (f_X11_tryIt 103 x y z w τ) := by
  obtain ⟨⟨r, c, g1, g2, g3⟩, -⟩ := id h
  have hrc := g1.rc
  obtain ⟨n, m6, e1, e2, e3⟩ := people g1 g2
  have N1 : Rl (i + 1) (p_call (f_X10_refuse 0 (-1) σ) (fun v s => some (v, s))) (p_call (f_X11_no 103 (-1) τ) (fun v s => some (v, s))) := (r_no h (by decide) n1).mono (by omega)
  have N2 : Rl (i + 1) (p_call (f_X10_refuse 0 (-2) σ) (fun v s => some (v, s))) (p_call (f_X11_no 103 (-2) τ) (fun v s => some (v, s))) := (r_no h (by decide) n2).mono (by omega)
  have N3 : Rl (i + 1) (p_call (f_X10_refuse 0 (-3) σ) (fun v s => some (v, s))) (p_call (f_X11_no 103 (-3) τ) (fun v s => some (v, s))) := (r_no h (by decide) n3).mono (by omega)
  have B : ∀ e : Int32, ¬ e = 0 → f_X10_tryIt_b49 0 x y z w e σ = p_call (f_X10_refuse 0 e σ) (fun v s => some (v, s)) := fun e he => by
    unfold f_X10_tryIt_b49
    rw [if_neg he]
  have B1 := B (-1) (by decide)
  have B2 := B (-2) (by decide)
  have B3 := B (-3) (by decide)
  unfold f_X10_tryIt f_X11_tryIt f_X10_tryIt_b45 f_X11_tryIt_b25 f_X11_tryIt_b75
  simp (disch := omega) only [rdN, wrN, rdZ, wrZ, p_put_eq, call_some, nzN, boN, nI_1, nI_add, pk_mul, lit_4, lit_16, le_T, le_F, lt_T, lt_F, eq_T, eq_F, le_T0, le_F0, lt_F0, lt_T0, eq_T0, eq_F0, eqm_F, up_s2, up_n2, Ev_some, nz_0, nz_1, if_true, if_false, reduceIte, and_true, true_and, and_false, false_and, b2_0, b2_1, Bool.true_eq_false, Bool.false_eq_true, not_true_eq_false, not_false_eq_true, w_refTry g2 e2, v_isPerson e1, v_isCell g1, v_turn]
  cases hx : inB n x with
  | false => simp (disch := omega) only [rdN, wrN, rdZ, wrZ, p_put_eq, call_some, nzN, boN, nI_1, nI_add, pk_mul, lit_4, lit_16, le_T, le_F, lt_T, lt_F, eq_T, eq_F, le_T0, le_F0, lt_F0, lt_T0, eq_T0, eq_F0, eqm_F, up_s2, up_n2, Ev_some, nz_0, nz_1, if_true, if_false, reduceIte, and_true, true_and, and_false, false_and, b2_0, b2_1, Bool.true_eq_false, Bool.false_eq_true, not_true_eq_false, not_false_eq_true, Bool.false_and, B1, show ¬ (-1 : Int32) = 0 by decide]; exact N1
  | true =>
    cases hy : inB (r * c) y with
    | false => simp (disch := omega) only [rdN, wrN, rdZ, wrZ, p_put_eq, call_some, nzN, boN, nI_1, nI_add, pk_mul, lit_4, lit_16, le_T, le_F, lt_T, lt_F, eq_T, eq_F, le_T0, le_F0, lt_F0, lt_T0, eq_T0, eq_F0, eqm_F, up_s2, up_n2, Ev_some, nz_0, nz_1, if_true, if_false, reduceIte, and_true, true_and, and_false, false_and, b2_0, b2_1, Bool.true_eq_false, Bool.false_eq_true, not_true_eq_false, not_false_eq_true, Bool.false_and, Bool.and_false, B1, show ¬ (-1 : Int32) = 0 by decide]; exact N1
    | true =>
      cases hw : inB (r * c) w with
      | false => simp (disch := omega) only [rdN, wrN, rdZ, wrZ, p_put_eq, call_some, nzN, boN, nI_1, nI_add, pk_mul, lit_4, lit_16, le_T, le_F, lt_T, lt_F, eq_T, eq_F, le_T0, le_F0, lt_F0, lt_T0, eq_T0, eq_F0, eqm_F, up_s2, up_n2, Ev_some, nz_0, nz_1, if_true, if_false, reduceIte, and_true, true_and, and_false, false_and, b2_0, b2_1, Bool.true_eq_false, Bool.false_eq_true, not_true_eq_false, not_false_eq_true, Bool.false_and, Bool.and_false, B1, show ¬ (-1 : Int32) = 0 by decide]; exact N1
      | true =>
        cases hz : inB 4 z with
        | false => simp (disch := omega) only [rdN, wrN, rdZ, wrZ, p_put_eq, call_some, nzN, boN, nI_1, nI_add, pk_mul, lit_4, lit_16, le_T, le_F, lt_T, lt_F, eq_T, eq_F, le_T0, le_F0, lt_F0, lt_T0, eq_T0, eq_F0, eqm_F, up_s2, up_n2, Ev_some, nz_0, nz_1, if_true, if_false, reduceIte, and_true, true_and, and_false, false_and, b2_0, b2_1, Bool.true_eq_false, Bool.false_eq_true, not_true_eq_false, not_false_eq_true, Bool.and_true, B2, show ¬ (-2 : Int32) = 0 by decide]; exact N2
        | true =>
          obtain ⟨u, hu, rfl⟩ := inB_of (by omega) hx
          obtain ⟨p, hp, rfl⟩ := inB_of (by omega) hy
          obtain ⟨q, hq, rfl⟩ := inB_of (by omega) hw
          obtain ⟨t, ht, rfl⟩ := inB_of (by decide) hz
          have hq' : q < 16 := by omega
          have hp' : p < 16 := by omega
          simp (disch := omega) only [rdN, wrN, rdZ, wrZ, p_put_eq, call_some, nzN, boN, nI_1, nI_add, pk_mul, lit_4, lit_16, le_T, le_F, lt_T, lt_F, eq_T, eq_F, le_T0, le_F0, lt_F0, lt_T0, eq_T0, eq_F0, eqm_F, up_s2, up_n2, Ev_some, nz_0, nz_1, if_true, if_false, reduceIte, and_true, true_and, and_false, false_and, b2_0, b2_1, Bool.true_eq_false, Bool.false_eq_true, not_true_eq_false, not_false_eq_true, Bool.and_true, x_isFilled hq', x_isAway hp', y_isLaid g1.sz, B3]
          rw [show fl (σ 8) q = flR (τ 108) q from flx g1 g2 hq', show aw (σ 11) (σ 12) p = _ from aw_eq g1 g2 hp']
          have hd : ∃ d, d < 5 ∧ σ (1 + 12 + 1) u = nI d := by
            obtain ⟨d, d1, d2⟩ := (e3 u hu).1
            exact ⟨d, d1, (g2.2.2.2.2.2 u (by omega)).1.trans d2⟩
          rcases g1.2.2.1 q hq' with wl | ⟨-, p9, t9, hp9, ht9, wl, -⟩
          · have wl' : τ 108 q = -1 := wl
            have f0 : flR (τ 108) q = false := by unfold flR; rw [wl']; decide
            rw [f0, if_pos rfl, wl', if_neg (show ¬ (0 : Int32) ≤ -1 by decide)]
            show Rl (i + 1) (if (laidB (τ 108) (r * c) (nI p) || decide (τ 111 p = 1)) = false then _ else _) (if laidB (τ 108) (r * c) (nI p) = false then (if τ 111 p = 1 then _ else _) else _)
            have l01 : τ 111 p = 0 ∨ τ 111 p = 1 := lost01 g1 hp'
            cases hl : laidB (τ 108) (r * c) (nI p) with
            | true => simp (disch := omega) only [rdN, wrN, rdZ, wrZ, p_put_eq, call_some, nzN, boN, nI_1, nI_add, pk_mul, lit_4, lit_16, le_T, le_F, lt_T, lt_F, eq_T, eq_F, le_T0, le_F0, lt_F0, lt_T0, eq_T0, eq_F0, eqm_F, up_s2, up_n2, Ev_some, nz_0, nz_1, if_true, if_false, reduceIte, and_true, true_and, and_false, false_and, b2_0, b2_1, Bool.true_eq_false, Bool.false_eq_true, not_true_eq_false, not_false_eq_true, Bool.true_or]; exact N3
            | false =>
              rcases l01 with ll | ll
              · rw [ll, if_pos (by decide), if_pos rfl, if_neg (by decide)]
                have ek : kindX (τ 105) (τ 106) (σ 8) (σ 9) r c p t q = kindV (τ 105) (τ 106) (τ 108) (τ 109) r c p t q := by
                  rw [kindX_eq]
                  unfold kindV
                  rw [show fitX (τ 105) (τ 106) (σ 8) (σ 9) r c p t q = fit (τ 105) (τ 106) (τ 108) (τ 109) r c p t q from fit_free g1 (fun o ho => ⟨(g2.2.2.2.1 o ho).1, (g2.2.2.2.1 o ho).2.1⟩) hq hl hp']
                have k1 : f_X1_kindOf (0 + 1 + 1) (0 + 1 + 6) (nI p) (nI t) (nI q) σ = some (kindV (τ 105) (τ 106) (τ 108) (τ 109) r c p t q, σ) := by
                  rw [← ek]
                  exact x_kindOf (k1 := 7) g2.1 (g2.bdx g1) hp ht hq
                have k3 : f_X11_secondsOf 103 (nI u) (nI p) (nI t) (nI q) τ = _ := y_secondsOf g1.sz g1.bd (show u < 6 by omega) hp ht hq
                have k4 : f_X11_kindAt 103 (nI p) (nI t) (nI q) τ = some (kindV (τ 105) (τ 106) (τ 108) (τ 109) r c p t q, τ) := y_kindAt g1.sz g1.bd hp ht hq
                have a1 : σ (1 + 12 + 1) u = τ 112 u := (g2.2.2.2.2.2 u (by omega)).1
                have a2 : σ (1 + 12 + 2) u = τ 113 u := (g2.2.2.2.2.2 u (by omega)).2.1
                have a3 : σ 16 u = τ 114 u := (g2.2.2.2.2.2 u (by omega)).2.2
                have a4 : σ (1 + 1 + 4) p = τ 107 p := g2.2.2.1 p hp
                have a5 : σ (1 + 1 + 4) q = τ 107 q := g2.2.2.1 q hq
                have k2 : f_X3_costOf (0 + 1) (nI u) (nI p) (nI q) (kindV (τ 105) (τ 106) (τ 108) (τ 109) r c p t q) σ = some (secV (τ 112 u) (τ 113 u) (τ 107) (τ 105) (τ 106) (τ 108) (τ 109) r c p t q, σ) := by
                  have := x_costOf (kd := kindV (τ 105) (τ 106) (τ 108) (τ 109) r c p t q) g2.1 hd (show u < 6 by omega) hp hq
                  rw [a1, a2, a4, a5] at this
                  exact this
                unfold f_X11_tries f_X11_tries_b50 f_X10_tryIt_b49 f_X10_tryIt_b134
                simp (disch := omega) only [rdN, wrN, rdZ, wrZ, p_put_eq, call_some, nzN, boN, nI_1, nI_add, pk_mul, lit_4, lit_16, le_T, le_F, lt_T, lt_F, eq_T, eq_F, le_T0, le_F0, lt_F0, lt_T0, eq_T0, eq_F0, eqm_F, up_s2, up_n2, Ev_some, nz_0, nz_1, if_true, if_false, reduceIte, and_true, true_and, and_false, false_and, b2_0, b2_1, Bool.true_eq_false, Bool.false_eq_true, not_true_eq_false, not_false_eq_true, k1, k2, k4, k3]
                simp only [Nat.reduceAdd]
                simp (disch := omega) only [rdN, wrN, rdZ, wrZ, p_put_eq, call_some, nzN, boN, nI_1, nI_add, pk_mul, lit_4, lit_16, le_T, le_F, lt_T, lt_F, eq_T, eq_F, le_T0, le_F0, lt_F0, lt_T0, eq_T0, eq_F0, eqm_F, up_s2, up_n2, Ev_some, nz_0, nz_1, if_true, if_false, reduceIte, and_true, true_and, and_false, false_and, b2_0, b2_1, Bool.true_eq_false, Bool.false_eq_true, not_true_eq_false, not_false_eq_true, a3]
                obtain ⟨⟨d, d1, d2⟩, ⟨v, v1, v2, v3⟩, s, s1, s2⟩ := e3 u hu
                obtain ⟨x, x1, x2⟩ := sec_le (d := d) (v := v) (r := r) (c := c) (p := p) (t := t) (q := q) (col := τ 107) (ri := τ 105) (dn := τ 106) (pc := τ 108) (tn := τ 109) d1 v2
                rw [d2, v3, x2, s2, nI_add]
                have G1 : GOk (sg_up (gM τ) 9 u (nI (s + x))) r c (60 * (i + 1)) := by
                  have := g1.spend (w := u) (s := s) (x := x) (n := n) e1 hu m6 s2 (by omega)
                  rw [show 60 * i + 60 = 60 * (i + 1) by omega] at this
                  exact this
                have G2 : GameOk (sg_up σ 16 u (nI (s + x))) 1 (sg_up (gM τ) 9 u (nI (s + x))) r c := g2.spend
                have E0 : EqA (gM (sg_up (sg_up τ 114 u (nI (s + x))) 103 14 (τ 103 14 + 1))) (sg_up (gM τ) 9 u (nI (s + x))) := (gM_up (j := 9) (by decide) rfl).trans (gM_fr (fun a _ _ => up_a (by omega)) (fun b _ _ => up_n2 (by omega)))
                -- nothing is laid
                have done0 : ∀ K : Int32, Rl (i + 1) (some (K, sg_up (sg_up σ 16 u (nI (s + x))) 0 12 (σ 0 12 + 1))) (some (K, sg_up (sg_up τ 114 u (nI (s + x))) 103 14 (τ 103 14 + 1))) := fun K => by
                  refine Rl.of rfl rfl (h.game (by omega) ⟨r, c, G1.cg E0, (G2.cg E0).fr (fun j _ _ => up_a (by omega)), known_fr g3 ⟨by rw [up_a (by decide), up_a (by decide)], by rw [up_a (by decide), up_a (by decide)], by rw [up_a (by decide), up_a (by decide)]⟩ ⟨by rw [up_a (by decide), up_a (by decide)], by rw [up_a (by decide), up_a (by decide)]⟩⟩ (fun a _ => by rw [up_a (by omega), up_a (by omega)]) (by simp (disch := omega) only [rdN, wrN, rdZ, wrZ, p_put_eq, call_some, nzN, boN, nI_1, nI_add, pk_mul, lit_4, lit_16, le_T, le_F, lt_T, lt_F, eq_T, eq_F, le_T0, le_F0, lt_F0, lt_T0, eq_T0, eq_F0, eqm_F, up_s2, up_n2, Ev_some, nz_0, nz_1, if_true, if_false, reduceIte, and_true, true_and, and_false, false_and, b2_0, b2_1, Bool.true_eq_false, Bool.false_eq_true, not_true_eq_false, not_false_eq_true]) (fun a _ => by rw [up_a (by omega), up_a (by omega)]) (fun b _ => by rw [up_n2 (by omega), up_n2 (by omega)]))
                -- it is laid
                have done1 : ∀ K : Int32, Rl (i + 1) (some (K, sg_up (sg_up (sg_up (sg_up (sg_up (sg_up σ 16 u (nI (s + x))) 0 12 (σ 0 12 + 1)) 8 q (nI p)) 9 q (nI t)) 10 q (nI u)) 11 p 1)) (some (K, sg_up (sg_up (sg_up (sg_up (sg_up τ 114 u (nI (s + x))) 103 14 (τ 103 14 + 1)) 108 q (nI p)) 109 q (nI t)) 110 q (nI u))) := fun K => by
                  have Ea : EqA (gM (sg_up (sg_up (sg_up (sg_up (sg_up τ 114 u (nI (s + x))) 103 14 (τ 103 14 + 1)) 108 q (nI p)) 109 q (nI t)) 110 q (nI u))) (sg_up (sg_up (sg_up (sg_up (gM τ) 9 u (nI (s + x))) 3 q (nI p)) 4 q (nI t)) 5 q (nI u)) := ((((E0.up (j := 3)).trans (gM_up (j := 3) (by decide) rfl)).up (j := 4)).trans (gM_up (j := 4) (by decide) rfl)).up (j := 5) |>.trans (gM_up (j := 5) (by decide) rfl)
                  have e93 : sg_up (gM τ) 9 u (nI (s + x)) 3 = gM τ 3 := up_a (by decide)
                  have H1 := G1.put (q := q) (p := p) (t := t) (x := nI u) hq hp ht (by rw [e93]; exact hl)
                  have H2 := (G2.fr (υ := sg_up (sg_up σ 16 u (nI (s + x))) 0 12 (σ 0 12 + 1)) (fun j _ _ => up_a (by omega))).put (t := t) (x := nI u) G1 hq hp (by rw [e93]; exact wl)
                  refine Rl.of rfl rfl (h.game (by omega) ⟨r, c, H1.cg Ea, H2.cg Ea, known_fr g3 ⟨by simp (disch := decide) only [up_a], by simp (disch := decide) only [up_a], by simp (disch := decide) only [up_a]⟩ ⟨by simp (disch := decide) only [up_a], by simp (disch := decide) only [up_a]⟩⟩ (fun a _ => by simp (disch := omega) only [up_a]) (by simp (disch := omega) only [rdN, wrN, rdZ, wrZ, p_put_eq, call_some, nzN, boN, nI_1, nI_add, pk_mul, lit_4, lit_16, le_T, le_F, lt_T, lt_F, eq_T, eq_F, le_T0, le_F0, lt_F0, lt_T0, eq_T0, eq_F0, eqm_F, up_s2, up_n2, Ev_some, nz_0, nz_1, if_true, if_false, reduceIte, and_true, true_and, and_false, false_and, b2_0, b2_1, Bool.true_eq_false, Bool.false_eq_true, not_true_eq_false, not_false_eq_true]) (fun a _ => by simp (disch := omega) only [up_a]) (fun b _ => by simp (disch := omega) only [up_n2]))
                by_cases K1 : kindV (τ 105) (τ 106) (τ 108) (τ 109) r c p t q = 1
                · rw [if_pos K1, if_pos K1]
                  simp (disch := omega) only [rdN, wrN, rdZ, wrZ, p_put_eq, call_some, nzN, boN, nI_1, nI_add, pk_mul, lit_4, lit_16, le_T, le_F, lt_T, lt_F, eq_T, eq_F, le_T0, le_F0, lt_F0, lt_T0, eq_T0, eq_F0, eqm_F, up_s2, up_n2, Ev_some, nz_0, nz_1, if_true, if_false, reduceIte, and_true, true_and, and_false, false_and, b2_0, b2_1, Bool.true_eq_false, Bool.false_eq_true, not_true_eq_false, not_false_eq_true, x_put hq' hp']
                  exact done1 _
                rw [if_neg K1, if_neg K1]
                by_cases K2 : kindV (τ 105) (τ 106) (τ 108) (τ 109) r c p t q = 2
                · rw [if_pos K2, if_pos K2]
                  simp (disch := omega) only [rdN, wrN, rdZ, wrZ, p_put_eq, call_some, nzN, boN, nI_1, nI_add, pk_mul, lit_4, lit_16, le_T, le_F, lt_T, lt_F, eq_T, eq_F, le_T0, le_F0, lt_F0, lt_T0, eq_T0, eq_F0, eqm_F, up_s2, up_n2, Ev_some, nz_0, nz_1, if_true, if_false, reduceIte, and_true, true_and, and_false, false_and, b2_0, b2_1, Bool.true_eq_false, Bool.false_eq_true, not_true_eq_false, not_false_eq_true, x_put hq' hp']
                  exact done1 _
                rw [if_neg K2, if_neg K2]
                exact done0 _
              · rw [ll, if_neg (by decide), if_pos rfl, if_pos rfl]
                exact N3
          · have wl' : τ 108 q = nI p9 := wl
            have f0 : flR (τ 108) q = true := by unfold flR; rw [wl', decide_eq_false (nI_pos (by omega))]; rfl
            rw [f0, if_neg (by decide), wl', if_pos (nI_pos' (by omega))]
            exact N3
end RH
