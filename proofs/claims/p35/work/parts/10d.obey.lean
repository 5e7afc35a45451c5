/-! the tape: statements come into the game, on both sides -/
section TO
variable {n : Nat} {B : Nat → Nat} {a nx : Nat}
theorem x_digitAt {σ : Sg} {j : Nat} (hB : TB n B) (hT : ∀ j, j < n → σ 56 j = nI (B j)) (hd : setB 1 (nb n B j) = true) : f_X7_digitAt 55 (nI j) σ = some (nI (nb n B j - 48), σ) := by
  have hj := set_lt hd
  have hn := hB.1
  obtain ⟨d1, d2⟩ := dg_r hd
  rw [nb_in hj] at d1 d2 ⊢
  unfold f_X7_digitAt
  rw [rdN (by omega) (by decide), show σ (55 + 1) j = nI (B j) from hT j hj, show (48 : Int32) = nI 48 from rfl, pk_sub d1]
theorem x_number {σ : Sg} (hB : TB n B) (hT : ∀ j, j < n → σ 56 j = nI (B j)) (hd : setB 1 (nb n B (a + 1)) = true) : f_X7_numberBetween 55 (nI (a + 1)) (nI (qN n B a)) σ = some (nI (nuV n B a), σ) := by
  have hj := set_lt hd
  have hn := hB.1
  unfold f_X7_numberBetween
  have st : ∀ f e j v, j < e → e < 100 → setB 1 (nb n B j) = true → f_X7_numberBetween_b5 55 (f + 1) (nI e) (nI v) (nI j) σ = f_X7_numberBetween_b5 55 f (nI e) (nI (v * 10 + (nb n B j - 48))) (nI (j + 1)) σ := fun f e j v h1 h2 h3 => by
    rw [f_X7_numberBetween_b5, if_neg (nI_ge h1 (by omega)), x_digitAt hB hT h3, call_some, L10, pk_mul, nI_add, nI_1]
  have en : ∀ f e v, e < 100 → f_X7_numberBetween_b5 55 (f + 1) (nI e) (nI v) (nI e) σ = some (nI v, σ) := fun f e v h => by
    rw [f_X7_numberBetween_b5, if_pos (nI_le (Nat.le_refl _) (by omega))]
  cases hd2 : setB 1 (nb n B (a + 2)) with
  | false =>
    have e1 : qN n B a = a + 2 := by unfold qN; rw [hd2]; rfl
    have e2 : nuV n B a = 0 * 10 + (nb n B (a + 1) - 48) := by unfold nuV; rw [hd2, if_neg (by decide)]; omega
    rw [e1, e2]
    exact (st 99999999 (a + 2) (a + 1) 0 (by omega) (by omega) hd).trans (en 99999998 (a + 2) _ (by omega))
  | true =>
    have hj2 := set_lt hd2
    have e1 : qN n B a = a + 3 := by unfold qN; rw [hd2]; rfl
    have e2 : nuV n B a = (0 * 10 + (nb n B (a + 1) - 48)) * 10 + (nb n B (a + 2) - 48) := by unfold nuV; rw [hd2, if_pos rfl]; omega
    rw [e1, e2]
    exact ((st 99999999 (a + 3) (a + 1) 0 (by omega) (by omega) hd).trans (st 99999998 (a + 3) (a + 2) _ (by omega) (by omega) hd2)).trans (en 99999997 (a + 3) _ (by omega))
theorem kd_tab : ((List.range 256).all fun b => !(setB 5 b) || decide (ixV 5 b = nI (kdN b))) = true := by decide +kernel
theorem kd_ix {b : Nat} (hb : b < 256) (h : setB 5 b = true) : ixV 5 b = nI (kdN b) := by
  have := all_r kd_tab hb
  rw [h] at this
  exact of_decide_eq_true this
theorem y_anew {τ : Sg} {r c : Nat} : Ev (f_X11_anew 103 (nI r) (nI c) τ) (fun _ υ => (∀ x, x ≠ 103 → x ≠ 105 → x ≠ 106 → x ≠ 107 → x ≠ 108 → x ≠ 111 → υ x = τ x) ∧ (∀ b, b ≠ 11 → b ≠ 12 → υ 103 b = τ 103 b) ∧ υ 103 11 = nI r ∧ υ 103 12 = nI c ∧ ∀ j, j < 16 → υ 105 j = 1 ∧ υ 106 j = 1 ∧ υ 107 j = 0 ∧ υ 108 j = -1 ∧ υ 111 j = 0) := by
  unfold f_X11_anew
  rw [p_put_eq, p_put_eq]
  refine lp_ev (L := fun f j υ => f_X11_anew_b12 103 f (nI j) υ) (m := 16) (I := fun m υ => (∀ x, x ≠ 103 → x ≠ 105 → x ≠ 106 → x ≠ 107 → x ≠ 108 → x ≠ 111 → υ x = τ x) ∧ (∀ b, b ≠ 11 → b ≠ 12 → υ 103 b = τ 103 b) ∧ υ 103 11 = nI r ∧ υ 103 12 = nI c ∧ ∀ j, j < m → υ 105 j = 1 ∧ υ 106 j = 1 ∧ υ 107 j = 0 ∧ υ 108 j = -1 ∧ υ 111 j = 0) (fun f υ h => ?_) (fun f j υ hj h ih => ?_) fu 0 _ (by decide) (fu_lt (by decide)) ⟨fun x h1 _ _ _ _ _ => by rw [up_a h1, up_a h1], fun b h1 h2 => by rw [up_n2 (by omega), up_n2 (by omega)], by simp (disch := omega) only [rdN, wrN, rdZ, wrZ, p_put_eq, call_some, nzN, boN, nI_1, nI_add, pk_mul, lit_4, lit_16, le_T, le_F, lt_T, lt_F, eq_T, eq_F, le_T0, le_F0, lt_F0, lt_T0, eq_T0, eq_F0, eqm_F, up_s2, up_n2, Ev_some, nz_0, nz_1, if_true, if_false, reduceIte, and_true, true_and, and_false, false_and, b2_0, b2_1, Bool.true_eq_false, Bool.false_eq_true, not_true_eq_false, not_false_eq_true], by simp (disch := omega) only [rdN, wrN, rdZ, wrZ, p_put_eq, call_some, nzN, boN, nI_1, nI_add, pk_mul, lit_4, lit_16, le_T, le_F, lt_T, lt_F, eq_T, eq_F, le_T0, le_F0, lt_F0, lt_T0, eq_T0, eq_F0, eqm_F, up_s2, up_n2, Ev_some, nz_0, nz_1, if_true, if_false, reduceIte, and_true, true_and, and_false, false_and, b2_0, b2_1, Bool.true_eq_false, Bool.false_eq_true, not_true_eq_false, not_false_eq_true], fun j hj => absurd hj (Nat.not_lt_zero _)⟩
  · show Ev (f_X11_anew_b12 103 (f + 1) (nI 16) υ) _
    rw [f_X11_anew_b12]
    simp (disch := omega) only [rdN, wrN, rdZ, wrZ, p_put_eq, call_some, nzN, boN, nI_1, nI_add, pk_mul, lit_4, lit_16, le_T, le_F, lt_T, lt_F, eq_T, eq_F, le_T0, le_F0, lt_F0, lt_T0, eq_T0, eq_F0, eqm_F, up_s2, up_n2, Ev_some, nz_0, nz_1, if_true, if_false, reduceIte, and_true, true_and, and_false, false_and, b2_0, b2_1, Bool.true_eq_false, Bool.false_eq_true, not_true_eq_false, not_false_eq_true]
    exact h
  · show Ev (f_X11_anew_b12 103 (f + 1) (nI j) υ) _
    obtain ⟨h1, h2, h3, h4, h5⟩ := h
    rw [f_X11_anew_b12]
    simp (disch := omega) only [rdN, wrN, rdZ, wrZ, p_put_eq, call_some, nzN, boN, nI_1, nI_add, pk_mul, lit_4, lit_16, le_T, le_F, lt_T, lt_F, eq_T, eq_F, le_T0, le_F0, lt_F0, lt_T0, eq_T0, eq_F0, eqm_F, up_s2, up_n2, Ev_some, nz_0, nz_1, if_true, if_false, reduceIte, and_true, true_and, and_false, false_and, b2_0, b2_1, Bool.true_eq_false, Bool.false_eq_true, not_true_eq_false, not_false_eq_true]
    refine ih _ ⟨fun x a1 a2 a3 a4 a5 a6 => by simp (disch := omega) only [up_a]; exact h1 x a1 a2 a3 a4 a5 a6, fun b x y => by simp (disch := omega) only [up_n2]; exact h2 b x y, by simp (disch := omega) only [rdN, wrN, rdZ, wrZ, p_put_eq, call_some, nzN, boN, nI_1, nI_add, pk_mul, lit_4, lit_16, le_T, le_F, lt_T, lt_F, eq_T, eq_F, le_T0, le_F0, lt_F0, lt_T0, eq_T0, eq_F0, eqm_F, up_s2, up_n2, Ev_some, nz_0, nz_1, if_true, if_false, reduceIte, and_true, true_and, and_false, false_and, b2_0, b2_1, Bool.true_eq_false, Bool.false_eq_true, not_true_eq_false, not_false_eq_true, h3], by simp (disch := omega) only [rdN, wrN, rdZ, wrZ, p_put_eq, call_some, nzN, boN, nI_1, nI_add, pk_mul, lit_4, lit_16, le_T, le_F, lt_T, lt_F, eq_T, eq_F, le_T0, le_F0, lt_F0, lt_T0, eq_T0, eq_F0, eqm_F, up_s2, up_n2, Ev_some, nz_0, nz_1, if_true, if_false, reduceIte, and_true, true_and, and_false, false_and, b2_0, b2_1, Bool.true_eq_false, Bool.false_eq_true, not_true_eq_false, not_false_eq_true, h4], fun l hl => ?_⟩
    by_cases e : l = j
    · subst e
      simp (disch := omega) only [rdN, wrN, rdZ, wrZ, p_put_eq, call_some, nzN, boN, nI_1, nI_add, pk_mul, lit_4, lit_16, le_T, le_F, lt_T, lt_F, eq_T, eq_F, le_T0, le_F0, lt_F0, lt_T0, eq_T0, eq_F0, eqm_F, up_s2, up_n2, Ev_some, nz_0, nz_1, if_true, if_false, reduceIte, and_true, true_and, and_false, false_and, b2_0, b2_1, Bool.true_eq_false, Bool.false_eq_true, not_true_eq_false, not_false_eq_true]
    · obtain ⟨b1, b2, b3, b4, b5⟩ := h5 l (by omega)
      simp (disch := omega) only [rdN, wrN, rdZ, wrZ, p_put_eq, call_some, nzN, boN, nI_1, nI_add, pk_mul, lit_4, lit_16, le_T, le_F, lt_T, lt_F, eq_T, eq_F, le_T0, le_F0, lt_F0, lt_T0, eq_T0, eq_F0, eqm_F, up_s2, up_n2, Ev_some, nz_0, nz_1, if_true, if_false, reduceIte, and_true, true_and, and_false, false_and, b2_0, b2_1, Bool.true_eq_false, Bool.false_eq_true, not_true_eq_false, not_false_eq_true, b1, b2, b3, b4, b5]
/-- the class's draft (from υ0) and the reference's game (from φ0), while statements come -/
def AppR (i : Nat) (υ0 φ0 υ φ : Sg) : Prop := (∃ r c, GOk (gM φ) r c (60 * i) ∧ GameOk υ 17 (gM φ) r c) ∧ (∀ x, x < 17 ∨ 32 < x → υ x = υ0 x) ∧ (∀ x, x ≠ 103 → (x < 105 ∨ 114 < x) → φ x = φ0 x) ∧ ∀ b, (b < 11 ∨ 13 < b) → φ 103 b = φ0 103 b
theorem app_z {i d1 d2 : Nat} {υ0 φ0 υ φ : Sg} (h : AppR i υ0 φ0 υ φ) (hd1 : d1 < 10) (hd2 : d2 < 10) : ∃ (ok : Bool) (υ' φ' : Sg), f_X7_obeySize 55 17 (nI d1) (nI d2) υ = some (b2 ok, υ') ∧ (p_call (f_X11_isIn (nI d1) 2 4 φ) (fun v16 s17 => if v16 = 0 then (some (0, s17)) else (p_call (f_X11_isIn (nI d2) 2 4 s17) (fun v18 s19 => if v18 = 0 then (some (0, s19)) else (p_call (f_X11_anew 103 (nI d1) (nI d2) s19) (fun v20 s21 => some (1, s21))))))) = some (b2 ok, φ') ∧ AppR i υ0 φ0 υ' φ' := by
  have e24 : ∀ d : Nat, d < 10 → ∀ ψ : Sg, f_X11_isIn (nI d) 2 4 ψ = some (b2 (decide (2 ≤ d) && decide (d ≤ 4)), ψ) := fun d hd ψ => by
    rw [y_isIn, show decide ((2 : Int32) ≤ nI d) = decide (2 ≤ d) from decide_eq_decide.mpr (nI_leI (a := 2) (by decide) (by omega)), show decide (nI d ≤ (4 : Int32)) = decide (d ≤ 4) from decide_eq_decide.mpr (nI_leI (b := 4) (by omega) (by decide))]
  have l2 : ∀ d : Nat, d < 10 → (nI d < (2 : Int32)) = (d < 2) := fun d hd => propext (nI_ltI (b := 2) (by omega) (by decide))
  have l4 : ∀ d : Nat, d < 10 → ((4 : Int32) < nI d) = (4 < d) := fun d hd => propext (nI_ltI (a := 4) (by decide) (by omega))
  have l5 : ∀ d : Nat, d < 10 → (nI d ≤ (4 : Int32)) = (d ≤ 4) := fun d hd => propext (nI_leI (b := 4) (by omega) (by decide))
  rw [e24 d1 hd1, call_some, e24 d2 hd2, call_some]
  unfold f_X7_obeySize
  simp only [l2 d1 hd1, l2 d2 hd2, l4 d1 hd1, l5 d2 hd2]
  by_cases c1 : d1 < 2
  · rw [if_pos c1, decide_eq_false (show ¬ 2 ≤ d1 by omega), Bool.false_and, if_pos (show b2 false = 0 from rfl)]
    exact ⟨false, υ, φ, rfl, rfl, h⟩
  rw [if_neg c1]
  by_cases c2 : 4 < d1
  · rw [if_pos c2, decide_eq_false (show ¬ d1 ≤ 4 by omega), Bool.and_false, if_pos (show b2 false = 0 from rfl)]
    exact ⟨false, υ, φ, rfl, rfl, h⟩
  rw [if_neg c2, decide_eq_true (show 2 ≤ d1 by omega), decide_eq_true (show d1 ≤ 4 by omega), Bool.and_self, if_neg (show ¬ b2 true = 0 by decide)]
  by_cases c3 : d2 < 2
  · rw [if_pos c3, decide_eq_false (show ¬ 2 ≤ d2 by omega), Bool.false_and, if_pos (show b2 false = 0 from rfl)]
    exact ⟨false, υ, φ, rfl, rfl, h⟩
  rw [if_neg c3]
  by_cases c4 : d2 ≤ 4
  · rw [if_pos c4, decide_eq_true (show 2 ≤ d2 by omega), decide_eq_true c4, Bool.and_self, if_neg (show ¬ b2 true = 0 by decide)]
    obtain ⟨⟨r, c, g1, g2⟩, h2, h3, h4⟩ := h
    obtain ⟨_, υ1, e1, f1, f2, f3, f21⟩ := x_cutAnew (σ := υ) (k := 18) (r := d1) (c := d2) (by omega) (by omega)
    obtain ⟨_, υ2, e2, f4, f5, f6, f7⟩ := x_clearB (σ := υ1) (k := 23)
    obtain ⟨_, φ1, e3, q1, q2, q3, q4, q5⟩ := y_anew (τ := φ) (r := d1) (c := d2)
    rw [show f_X1_cutAnew (17 + 1) (nI d1) (nI d2) υ = _ from e1, call_some, show f_X0_clear (17 + 6) υ1 = _ from e2, call_some, e3, call_some]
    have hrc : d1 * d2 ≤ 16 := rc16 (by omega) (by omega)
    refine ⟨true, υ2, φ1, rfl, rfl, ⟨d1, d2, ?_, ?_⟩, fun x hx => ?_, fun x a1 a2 => (q1 x a1 (by omega) (by omega) (by omega) (by omega) (by omega)).trans (h3 x a1 a2), fun b hb => ?_⟩
    · obtain ⟨-, -, -, -, -, N, n1, n2, n3⟩ := g1
      refine ⟨⟨q3, q4, by omega, by omega⟩, fun p hp => ?_, fun q hq => .inl (q5 q hq).2.2.2.1, fun q q' hq _ _ => .inl (q5 q hq).2.2.2.1, fun p hp => .inl (q5 p hp).2.2.2.2, N, n1, ?_, fun w hw => ?_⟩
      · have one : EdV 1 := ⟨1, by decide, by decide, .inl rfl⟩
        show EdV (φ1 105 p) ∧ EdV (φ1 106 p)
        rw [(q5 p hp).1, (q5 p hp).2.1]
        exact ⟨one, one⟩
      · show φ1 103 13 = nI N
        rw [q2 13 (by decide) (by decide)]; exact n2
      · show (∃ d, d < 5 ∧ φ1 112 w = nI d) ∧ (∃ v, 1 ≤ v ∧ v ≤ 9 ∧ φ1 113 w = nI v) ∧ ∃ s, s ≤ 60 * i ∧ φ1 114 w = nI s
        rw [q1 112 (by decide) (by decide) (by decide) (by decide) (by decide) (by decide), q1 113 (by decide) (by decide) (by decide) (by decide) (by decide) (by decide), q1 114 (by decide) (by decide) (by decide) (by decide) (by decide) (by decide)]
        exact n3 w hw
    · obtain ⟨G1, G2, G3, G4, G5, G6⟩ := g2
      have fr : ∀ x, x < 18 ∨ 28 < x → υ2 x = υ x := fun x hx => (f4 x (by omega)).trans (f1 x (by omega))
      refine ⟨?_, fun j hj => ?_, fun p hp => ?_, fun q hq => ?_, ?_, fun w hw => ?_⟩
      · refine (f2.fr (υ := υ2) (fun j hj => f4 _ (by omega))).cg (fun q hq => ?_)
        exact ⟨(q5 q hq).1, (q5 q hq).2.1⟩
      · show nz (υ2 21 j) = υ2 21 j
        rw [f4 21 (by decide)]
        rcases Nat.lt_or_ge j (d1 * d2) with z | z
        · have := f2.2.2.2.2.2.2 j z
          rw [show υ1 21 j = b2 (rim d1 d2 j) from this]
          exact nz_b
        · rw [show υ1 21 j = υ 21 j from f21 j z]; exact G2 j hj
      · show υ2 22 p = φ1 107 p
        rw [f4 22 (by decide), (q5 p (by omega)).2.2.1]
        exact f3 p hp
      · have hq' := q5 q hq
        show υ2 24 q = φ1 108 q ∧ υ2 25 q = φ1 109 q ∧ υ2 26 q = φ1 110 q ∧ υ2 27 q = b2 (laidB (φ1 108) (d1 * d2) (nI q)) ∧ υ2 28 q = φ1 111 q
        obtain ⟨c1, c2, c3⟩ := f7 q hq
        have hl : laidB (φ1 108) (d1 * d2) (nI q) = false := by
          cases hb : laidB (φ1 108) (d1 * d2) (nI q) with
          | false => rfl
          | true =>
            obtain ⟨o, ho, e⟩ := laidB_iff.mp hb
            rw [(q5 o (by omega)).2.2.2.1] at e
            exact absurd e.symm (nI_nm1 (by omega))
        obtain ⟨-, t2, t3, -⟩ := G4 q hq
        refine ⟨c1.trans hq'.2.2.2.1.symm, ?_, ?_, by rw [hl]; exact c2, c3.trans hq'.2.2.2.2.symm⟩
        · rw [show υ2 25 = υ1 25 from f5, f1 25 (by decide), q1 109 (by decide) (by decide) (by decide) (by decide) (by decide) (by decide)]; exact t2
        · rw [show υ2 26 = υ1 26 from f6, f1 26 (by decide), q1 110 (by decide) (by decide) (by decide) (by decide) (by decide) (by decide)]; exact t3
      · show υ2 29 0 = φ1 103 13
        rw [fr 29 (by decide), q2 13 (by decide) (by decide)]; exact G5
      · show υ2 30 w = φ1 112 w ∧ υ2 31 w = φ1 113 w ∧ υ2 32 w = φ1 114 w
        rw [fr 30 (by decide), fr 31 (by decide), fr 32 (by decide), q1 112 (by decide) (by decide) (by decide) (by decide) (by decide) (by decide), q1 113 (by decide) (by decide) (by decide) (by decide) (by decide) (by decide), q1 114 (by decide) (by decide) (by decide) (by decide) (by decide) (by decide)]
        exact G6 w hw
    · exact ((f4 x (by omega)).trans (f1 x (by omega))).trans (h2 x hx)
    · rw [q2 b (by omega) (by omega)]; exact h4 b hb
  · rw [if_neg c4, decide_eq_true (show 2 ≤ d2 by omega), decide_eq_false c4, Bool.and_false, if_pos (show b2 false = 0 from rfl)]
    exact ⟨false, υ, φ, rfl, rfl, h⟩
theorem GOk.colU {G : Sg} {r c B' p : Nat} {v : Int32} (h : GOk G r c B') : GOk (sg_up G 2 p v) r c B' := by
  obtain ⟨a, b, d, f, g, m⟩ := h
  have e : ∀ j, j ≠ 2 → sg_up G 2 p v j = G j := fun j hj => up_a hj
  exact ⟨by rw [e 10 (by decide)]; exact a, by rw [e 0 (by decide), e 1 (by decide)]; exact b, by rw [e 3 (by decide), e 4 (by decide)]; exact d, by rw [e 3 (by decide)]; exact f, by rw [e 6 (by decide)]; exact g, by rw [e 10 (by decide), e 7 (by decide), e 8 (by decide), e 9 (by decide)]; exact m⟩
theorem GOk.edU {G : Sg} {r c B' p j : Nat} {v : Int32} (h : GOk G r c B') (hj : j < 2) (hv : EdV v) : GOk (sg_up G j p v) r c B' := by
  obtain ⟨a, b, d, f, g, m⟩ := h
  have e : ∀ i, i ≠ j → sg_up G j p v i = G i := fun i hi => up_a hi
  refine ⟨by rw [e 10 (by omega)]; exact a, fun q hq => ?_, by rw [e 3 (by omega), e 4 (by omega)]; exact d, by rw [e 3 (by omega)]; exact f, by rw [e 6 (by omega)]; exact g, by rw [e 10 (by omega), e 7 (by omega), e 8 (by omega), e 9 (by omega)]; exact m⟩
  obtain ⟨x, y⟩ := b q hq
  rcases (show j = 0 ∨ j = 1 by omega) with rfl | rfl
  · rw [e 1 (by decide)]
    refine ⟨?_, y⟩
    by_cases z : q = p
    · rw [up_s2 ⟨rfl, z⟩]; exact hv
    · rw [up_n2 (by omega)]; exact x
  · rw [e 0 (by decide)]
    refine ⟨x, ?_⟩
    by_cases z : q = p
    · rw [up_s2 ⟨rfl, z⟩]; exact hv
    · rw [up_n2 (by omega)]; exact y
/-- a game of the class with another cut, all else as it was -/
theorem GameOk.cutU {G G' : Sg} {υ υ' : Sg} {k r c : Nat} (h : GameOk υ k G r c) (hc : CutOk υ' (k + 1) r c (G' 0) (G' 1)) (hf : ∀ x, x ≠ k + 2 → υ' x = υ x) (hG : ∀ j, 2 ≤ j → G' j = G j) : GameOk υ' k G' r c := by
  obtain ⟨h1, h2, h3, h4, h5, h6⟩ := h
  refine ⟨hc, ?_, ?_, ?_, ?_, ?_⟩
  · rw [hf (k + 4) (by omega)]; exact h2
  · rw [hf (k + 5) (by omega), hG 2 (by decide)]; exact h3
  · rw [hf (k + 7) (by omega), hf (k + 8) (by omega), hf (k + 9) (by omega), hf (k + 10) (by omega), hf (k + 11) (by omega), hG 3 (by decide), hG 4 (by decide), hG 5 (by decide), hG 6 (by decide)]; exact h4
  · rw [hf (k + 12) (by omega), hG 10 (by decide)]; exact h5
  · rw [hf (k + 13) (by omega), hf (k + 14) (by omega), hf (k + 15) (by omega), hG 7 (by decide), hG 8 (by decide), hG 9 (by decide)]; exact h6
theorem app_e {i f s d : Nat} {t : Int32} {pm : Bool} {υ0 φ0 υ φ : Sg} (h : AppR i υ0 φ0 υ φ) (hf : f < 1000) (hs : s < 2) (hd : d < 10) (ht : t = if pm = true then nI d else -(nI d)) : ∃ (ok : Bool) (υ' φ' : Sg), (if (υ (17 + 1) 2) ≤ nI f then (some (0, υ)) else (if nI d < 1 then (some (0, υ)) else (p_call (f_X1_beside (17 + 1) (nI f) (nI (s + 1)) υ) (fun v1 s2 => if v1 = (-1) then (some (0, s2)) else (p_call (f_X1_setEdge (17 + 1) (nI f) (nI (s + 1)) (if pm = true then nI d else -(nI d)) s2) (fun _ s2 => some (1, s2))))))) = some (b2 ok, υ') ∧ (p_call (f_X11_isCell 103 (nI f) φ) (fun v7 s8 => if v7 = 0 then (some (0, s8)) else (p_call (f_X11_beside 103 (nI f) (nI s + 1) s8) (fun v9 s10 => if v9 < 0 then (some (0, s10)) else (if t = 0 then (some (0, s10)) else (if nI s = 0 then (p_wr s10 (103 + 2) 16 (nI f) t (fun s15 => some (1, s15))) else (p_wr s10 (103 + 3) 16 (nI f) t (fun s13 => some (1, s13))))))))) = some (b2 ok, φ') ∧ AppR i υ0 φ0 υ' φ' := by
  obtain ⟨⟨r, c, g1, g2⟩, h2, h3, h4⟩ := id h
  have hrc := g1.rc
  have h1' := g1.1.2.2.1
  have h2' := g1.1.2.2.2
  have hn : υ (17 + 1) 2 = nI (r * c) := g2.1.n
  rw [hn, v_isCell g1, call_some]
  rcases Nat.lt_or_ge f (r * c) with q | q
  · rw [if_neg (nI_ge q (by omega)), inB_nI (by omega) q, if_neg (show ¬ b2 true = 0 by decide), nI_1, y_beside g1.sz q (by omega), call_some]
    have eb : f_X1_beside (17 + 1) (nI f) (nI (s + 1)) υ = some (bsI (bs r c f (s + 1)), υ) := x_beside g2.1 q (by omega)
    rw [eb, call_some]
    have l1 : (nI d < (1 : Int32)) = (d < 1) := propext (nI_ltI (b := 1) (by omega) (by decide))
    simp only [l1]
    cases hb : bs r c f (s + 1) with
    | none =>
      rw [if_pos (show bsI none = -1 from rfl), if_pos (show bsI none < 0 by decide)]
      by_cases d1 : d < 1
      · rw [if_pos d1]; exact ⟨false, υ, φ, rfl, rfl, h⟩
      · rw [if_neg d1]; exact ⟨false, υ, φ, rfl, rfl, h⟩
    | some o =>
      have ho := bs_lt h1' h2' q (by omega) hb
      rw [if_neg (show ¬ bsI (some o) = -1 from nI_nm1 (by omega)), if_neg (show ¬ bsI (some o) < 0 from nI_pos (by omega))]
      by_cases d1 : d < 1
      · have t0 : t = 0 := by
          have : d = 0 := by omega
          rw [ht, this]
          cases pm <;> decide
        rw [if_pos d1, if_pos t0]
        exact ⟨false, υ, φ, rfl, rfl, h⟩
      · have hv : EdV t := by
          rw [ht]
          cases pm
          · exact ⟨d, by omega, by omega, .inr rfl⟩
          · exact ⟨d, by omega, by omega, .inl rfl⟩
        rw [if_neg d1, if_neg hv.ne, ← ht]
        rcases (show s = 0 ∨ s = 1 by omega) with rfl | rfl
        · obtain ⟨_, υ1, k1, k2, k3⟩ := x_setR (v := t) g2.1 q hb
          rw [show f_X1_setEdge (17 + 1) (nI f) (nI (0 + 1)) t υ = _ from k1, call_some, if_pos (show nI 0 = 0 from rfl), wrN (by omega) (by decide)]
          have E : EqA (gM (sg_up φ (103 + 2) f t)) (sg_up (gM φ) 0 f t) := gM_up (j := 0) (by decide) rfl
          have e0 : sg_up (gM φ) 0 f t 0 = ut (gM φ 0) f t := up_ut
          refine ⟨true, υ1, _, rfl, rfl, ⟨r, c, (g1.edU (by decide) hv).cg E, (g2.cutU (G' := sg_up (gM φ) 0 f t) (by rw [e0, up_a (by decide)]; exact k3) (fun x hx => k2 x (by omega)) (fun j hj => up_a (by omega))).cg E⟩, fun x hx => (k2 x (by omega)).trans (h2 x hx), fun x a1 a2 => (up_a (by omega)).trans (h3 x a1 a2), fun b hb' => (up_n2 (by omega)).trans (h4 b hb')⟩
        · obtain ⟨_, υ1, k1, k2, k3⟩ := x_setD (v := t) g2.1 q hb
          rw [show f_X1_setEdge (17 + 1) (nI f) (nI (1 + 1)) t υ = _ from k1, call_some, if_neg (show ¬ nI 1 = 0 by decide), wrN (by omega) (by decide)]
          have E : EqA (gM (sg_up φ (103 + 3) f t)) (sg_up (gM φ) 1 f t) := gM_up (j := 1) (by decide) rfl
          have e0 : sg_up (gM φ) 1 f t 1 = ut (gM φ 1) f t := up_ut
          refine ⟨true, υ1, _, rfl, rfl, ⟨r, c, (g1.edU (by decide) hv).cg E, (g2.cutU (G' := sg_up (gM φ) 1 f t) (by rw [e0, up_a (by decide)]; exact k3) (fun x hx => k2 x (by omega)) (fun j hj => up_a (by omega))).cg E⟩, fun x hx => (k2 x (by omega)).trans (h2 x hx), fun x a1 a2 => (up_a (by omega)).trans (h3 x a1 a2), fun b hb' => (up_n2 (by omega)).trans (h4 b hb')⟩
  · have hin : inB (r * c) (nI f) = false := by
      unfold inB
      rw [decide_eq_false (nI_nlt q (by omega)), Bool.and_false]
    rw [if_pos (nI_le q (by omega)), hin, if_pos (show b2 false = 0 from rfl)]
    exact ⟨false, υ, φ, rfl, rfl, h⟩
theorem app_c {i f s : Nat} {υ0 φ0 υ φ : Sg} (h : AppR i υ0 φ0 υ φ) (hf : f < 1000) : ∃ (ok : Bool) (υ' φ' : Sg), f_X7_obeyColour 55 17 (nI f) (nI s) υ = some (b2 ok, υ') ∧ (p_call (f_X11_isCell 103 (nI f) φ) (fun v4 s5 => if v4 = 0 then (some (0, s5)) else (p_wr s5 (103 + 4) 16 (nI f) (nI s) (fun s6 => some (1, s6))))) = some (b2 ok, φ') ∧ AppR i υ0 φ0 υ' φ' := by
  obtain ⟨⟨r, c, g1, g2⟩, h2, h3, h4⟩ := id h
  have hrc := g1.rc
  unfold f_X7_obeyColour
  rw [show υ (17 + 1) 2 = nI (r * c) from g2.1.n, v_isCell g1, call_some]
  rcases Nat.lt_or_ge f (r * c) with q | q
  · rw [if_pos (nI_lt q (by omega)), inB_nI (by omega) q, if_neg (show ¬ b2 true = 0 by decide), wrN (by omega) (by decide), wrN (by omega) (by decide)]
    have E : EqA (gM (sg_up φ (103 + 4) f (nI s))) (sg_up (gM φ) 2 f (nI s)) := gM_up (j := 2) (by decide) rfl
    refine ⟨true, _, _, rfl, rfl, ⟨r, c, g1.colU.cg E, GameOk.cg ?_ E⟩, fun x hx => (up_a (by omega)).trans (h2 x hx), fun x a1 a2 => (up_a (by omega)).trans (h3 x a1 a2), fun b hb' => (up_n2 (by omega)).trans (h4 b hb')⟩
    obtain ⟨G1, G2, G3, G4, G5, G6⟩ := g2
    have e : ∀ j, j ≠ 2 → sg_up (gM φ) 2 f (nI s) j = gM φ j := fun j hj => up_a hj
    have fr : ∀ x, x ≠ 22 → sg_up υ (17 + 1 + 4) f (nI s) x = υ x := fun x hx => up_a (by omega)
    refine ⟨?_, ?_, fun p hp => ?_, ?_, ?_, ?_⟩
    · rw [e 0 (by decide), e 1 (by decide)]; exact G1.fr (fun j hj => fr _ (by omega))
    · rw [fr (17 + 4) (by decide)]; exact G2
    · by_cases z : p = f
      · rw [up_s2 ⟨rfl, z⟩, up_s2 ⟨rfl, z⟩]
      · rw [up_n2 (by omega), up_n2 (by omega)]; exact G3 p hp
    · rw [fr (17 + 7) (by decide), fr (17 + 8) (by decide), fr (17 + 9) (by decide), fr (17 + 10) (by decide), fr (17 + 11) (by decide), e 3 (by decide), e 4 (by decide), e 5 (by decide), e 6 (by decide)]; exact G4
    · rw [fr (17 + 12) (by decide), e 10 (by decide)]; exact G5
    · rw [fr (17 + 13) (by decide), fr (17 + 14) (by decide), fr (17 + 15) (by decide), e 7 (by decide), e 8 (by decide), e 9 (by decide)]; exact G6
  · have hin : inB (r * c) (nI f) = false := by
      unfold inB
      rw [decide_eq_false (nI_nlt q (by omega)), Bool.and_false]
    rw [if_neg (nI_nlt q (by omega)), hin, if_pos (show b2 false = 0 from rfl)]
    exact ⟨false, υ, φ, rfl, rfl, h⟩
theorem app_p {i kd s : Nat} {υ0 φ0 υ φ : Sg} (h : AppR i υ0 φ0 υ φ) (hk : kd < 5) (hs : s < 10) : ∃ (ok : Bool) (υ' φ' : Sg), f_X7_obeyPerson 55 17 (nI kd) (nI s) υ = some (b2 ok, υ') ∧ (if nI s = 0 then (some ((0 : Int32), φ)) else (if (φ 103 13) = 6 then (some (0, φ)) else (p_wr φ (103 + 9) 6 (φ 103 13) (nI kd) (fun s22 => p_wr s22 (103 + 10) 6 (s22 103 13) (nI s) (fun s23 => p_wr s23 (103 + 11) 6 (s23 103 13) 0 (fun s24 => p_put s24 103 13 ((s24 103 13) + 1) (fun s25 => some (1, s25)))))))) = some (b2 ok, φ') ∧ AppR i υ0 φ0 υ' φ' := by
  obtain ⟨⟨r, c, g1, g2⟩, h2, h3, h4⟩ := id h
  have hrc := g1.rc
  obtain ⟨A, Bx, D, F, Gx, N, n1, n2, n3⟩ := id g1
  have e29 : υ (17 + 12) 0 = nI N := g2.2.2.2.2.1.trans n2
  have e13 : φ 103 13 = nI N := n2
  unfold f_X7_obeyPerson f_X4_add
  rw [e29, e13]
  have l1 : (nI s < (1 : Int32)) = (s < 1) := propext (nI_ltI (b := 1) (by omega) (by decide))
  simp only [l1]
  by_cases s1 : s < 1
  · rw [if_pos s1, if_pos (show nI s = 0 by rw [show s = 0 by omega]; rfl)]
    exact ⟨false, υ, φ, rfl, rfl, h⟩
  rw [if_neg s1, if_neg (nI_ne0 (by omega) (by omega))]
  rcases Nat.lt_or_ge N 6 with q | q
  · rw [if_pos (show nI N < (6 : Int32) from nI_lt (b := 6) q (by decide)), if_neg (show ¬ nI N = (6 : Int32) from fun e => by have := (nI_eq (b := 6) (by omega) (by decide)).mp e; omega)]
    have S : p_call (p_wr υ (17 + 12 + 1) 6 (nI N) (nI kd) (fun s1 => p_wr s1 (17 + 12 + 2) 6 (s1 (17 + 12) 0) (nI s) (fun s2 => p_wr s2 (17 + 12 + 3) 6 (s2 (17 + 12) 0) 0 (fun s3 => p_put s3 (17 + 12) 0 ((s3 (17 + 12) 0) + 1) (fun s4 => some (0, s4)))))) (fun _ s2 => some ((1 : Int32), s2)) = some (1, sg_up (sg_up (sg_up (sg_up υ 30 N (nI kd)) 31 N (nI s)) 32 N 0) 29 0 (nI (N + 1))) := by
      rw [wrN (by omega) (by decide), show sg_up υ (17 + 12 + 1) N (nI kd) (17 + 12) 0 = nI N by rw [up_a (by decide)]; exact e29, wrN (by omega) (by decide), show sg_up (sg_up υ (17 + 12 + 1) N (nI kd)) (17 + 12 + 2) N (nI s) (17 + 12) 0 = nI N by rw [up_a (by decide), up_a (by decide)]; exact e29, wrN (by omega) (by decide), p_put_eq, show sg_up (sg_up (sg_up υ (17 + 12 + 1) N (nI kd)) (17 + 12 + 2) N (nI s)) (17 + 12 + 3) N 0 (17 + 12) 0 = nI N by rw [up_a (by decide), up_a (by decide), up_a (by decide)]; exact e29, nI_1]
      rfl
    have T : p_wr φ (103 + 9) 6 (nI N) (nI kd) (fun s22 => p_wr s22 (103 + 10) 6 (s22 103 13) (nI s) (fun s23 => p_wr s23 (103 + 11) 6 (s23 103 13) 0 (fun s24 => p_put s24 103 13 ((s24 103 13) + 1) (fun s25 => some ((1 : Int32), s25))))) = some (1, sg_up (sg_up (sg_up (sg_up φ 112 N (nI kd)) 113 N (nI s)) 114 N 0) 103 13 (nI (N + 1))) := by
      rw [wrN (by omega) (by decide), show sg_up φ (103 + 9) N (nI kd) 103 13 = nI N by rw [up_a (by decide)]; exact e13, wrN (by omega) (by decide), show sg_up (sg_up φ (103 + 9) N (nI kd)) (103 + 10) N (nI s) 103 13 = nI N by rw [up_a (by decide), up_a (by decide)]; exact e13, wrN (by omega) (by decide), p_put_eq, show sg_up (sg_up (sg_up φ (103 + 9) N (nI kd)) (103 + 10) N (nI s)) (103 + 11) N 0 103 13 = nI N by rw [up_a (by decide), up_a (by decide), up_a (by decide)]; exact e13, nI_1]
    rw [S, T]
    refine ⟨true, _, _, rfl, rfl, ⟨r, c, ?_, ?_⟩, fun x hx => ?_, fun x a1 a2 => ?_, fun b hb' => ?_⟩
    · have fr : ∀ x, x ≠ 103 → x ≠ 112 → x ≠ 113 → x ≠ 114 → sg_up (sg_up (sg_up (sg_up φ 112 N (nI kd)) 113 N (nI s)) 114 N 0) 103 13 (nI (N + 1)) x = φ x := fun x x1 x2 x3 x4 => by rw [up_a x1, up_a x4, up_a x3, up_a x2]
      refine ⟨?_, ?_, ?_, ?_, ?_, N + 1, by omega, by show sg_up (sg_up (sg_up (sg_up φ 112 N (nI kd)) 113 N (nI s)) 114 N 0) 103 13 (nI (N + 1)) 103 13 = _; simp (disch := omega) only [rdN, wrN, rdZ, wrZ, p_put_eq, call_some, nzN, boN, nI_1, nI_add, pk_mul, lit_4, lit_16, le_T, le_F, lt_T, lt_F, eq_T, eq_F, le_T0, le_F0, lt_F0, lt_T0, eq_T0, eq_F0, eqm_F, up_s2, up_n2, Ev_some, nz_0, nz_1, if_true, if_false, reduceIte, and_true, true_and, and_false, false_and, b2_0, b2_1, Bool.true_eq_false, Bool.false_eq_true, not_true_eq_false, not_false_eq_true], fun w hw => ?_⟩
      · show sg_up (sg_up (sg_up (sg_up φ 112 N (nI kd)) 113 N (nI s)) 114 N 0) 103 13 (nI (N + 1)) 103 11 = nI r ∧ sg_up (sg_up (sg_up (sg_up φ 112 N (nI kd)) 113 N (nI s)) 114 N 0) 103 13 (nI (N + 1)) 103 12 = nI c ∧ _
        simp (disch := omega) only [rdN, wrN, rdZ, wrZ, p_put_eq, call_some, nzN, boN, nI_1, nI_add, pk_mul, lit_4, lit_16, le_T, le_F, lt_T, lt_F, eq_T, eq_F, le_T0, le_F0, lt_F0, lt_T0, eq_T0, eq_F0, eqm_F, up_s2, up_n2, Ev_some, nz_0, nz_1, if_true, if_false, reduceIte, and_true, true_and, and_false, false_and, b2_0, b2_1, Bool.true_eq_false, Bool.false_eq_true, not_true_eq_false, not_false_eq_true, show φ 103 11 = nI r from A.1, show φ 103 12 = nI c from A.2.1]
        exact A.2.2
      · show Ed (sg_up _ 103 13 _ 105) (sg_up _ 103 13 _ 106)
        rw [fr 105 (by decide) (by decide) (by decide) (by decide), fr 106 (by decide) (by decide) (by decide) (by decide)]; exact Bx
      · show ∀ q, q < 16 → sg_up _ 103 13 _ 108 q = -1 ∨ (q < r * c ∧ ∃ p t, p < r * c ∧ t < 4 ∧ sg_up _ 103 13 _ 108 q = nI p ∧ sg_up _ 103 13 _ 109 q = nI t)
        rw [fr 108 (by decide) (by decide) (by decide) (by decide), fr 109 (by decide) (by decide) (by decide) (by decide)]; exact D
      · show ∀ q q', q < 16 → q' < 16 → sg_up _ 103 13 _ 108 q = sg_up _ 103 13 _ 108 q' → sg_up _ 103 13 _ 108 q = -1 ∨ q = q'
        rw [fr 108 (by decide) (by decide) (by decide) (by decide)]; exact F
      · show ∀ p, p < 16 → sg_up _ 103 13 _ 111 p = 0 ∨ (sg_up _ 103 13 _ 111 p = 1 ∧ p < r * c)
        rw [fr 111 (by decide) (by decide) (by decide) (by decide)]; exact Gx
      · show (∃ d, d < 5 ∧ sg_up (sg_up (sg_up (sg_up φ 112 N (nI kd)) 113 N (nI s)) 114 N 0) 103 13 (nI (N + 1)) 112 w = nI d) ∧ (∃ v, 1 ≤ v ∧ v ≤ 9 ∧ sg_up (sg_up (sg_up (sg_up φ 112 N (nI kd)) 113 N (nI s)) 114 N 0) 103 13 (nI (N + 1)) 113 w = nI v) ∧ ∃ x, x ≤ 60 * i ∧ sg_up (sg_up (sg_up (sg_up φ 112 N (nI kd)) 113 N (nI s)) 114 N 0) 103 13 (nI (N + 1)) 114 w = nI x
        by_cases z : w = N
        · subst z
          exact ⟨⟨kd, hk, by simp (disch := omega) only [rdN, wrN, rdZ, wrZ, p_put_eq, call_some, nzN, boN, nI_1, nI_add, pk_mul, lit_4, lit_16, le_T, le_F, lt_T, lt_F, eq_T, eq_F, le_T0, le_F0, lt_F0, lt_T0, eq_T0, eq_F0, eqm_F, up_s2, up_n2, Ev_some, nz_0, nz_1, if_true, if_false, reduceIte, and_true, true_and, and_false, false_and, b2_0, b2_1, Bool.true_eq_false, Bool.false_eq_true, not_true_eq_false, not_false_eq_true]⟩, ⟨s, by omega, by omega, by simp (disch := omega) only [rdN, wrN, rdZ, wrZ, p_put_eq, call_some, nzN, boN, nI_1, nI_add, pk_mul, lit_4, lit_16, le_T, le_F, lt_T, lt_F, eq_T, eq_F, le_T0, le_F0, lt_F0, lt_T0, eq_T0, eq_F0, eqm_F, up_s2, up_n2, Ev_some, nz_0, nz_1, if_true, if_false, reduceIte, and_true, true_and, and_false, false_and, b2_0, b2_1, Bool.true_eq_false, Bool.false_eq_true, not_true_eq_false, not_false_eq_true]⟩, 0, Nat.zero_le _, by simp (disch := omega) only [rdN, wrN, rdZ, wrZ, p_put_eq, call_some, nzN, boN, nI_1, nI_add, pk_mul, lit_4, lit_16, le_T, le_F, lt_T, lt_F, eq_T, eq_F, le_T0, le_F0, lt_F0, lt_T0, eq_T0, eq_F0, eqm_F, up_s2, up_n2, Ev_some, nz_0, nz_1, if_true, if_false, reduceIte, and_true, true_and, and_false, false_and, b2_0, b2_1, Bool.true_eq_false, Bool.false_eq_true, not_true_eq_false, not_false_eq_true]; rfl⟩
        · obtain ⟨⟨y1, y2, y3⟩, ⟨z1, z2, z3, z4⟩, w1, w2, w3⟩ := n3 w (by omega)
          exact ⟨⟨y1, y2, by simp (disch := omega) only [rdN, wrN, rdZ, wrZ, p_put_eq, call_some, nzN, boN, nI_1, nI_add, pk_mul, lit_4, lit_16, le_T, le_F, lt_T, lt_F, eq_T, eq_F, le_T0, le_F0, lt_F0, lt_T0, eq_T0, eq_F0, eqm_F, up_s2, up_n2, Ev_some, nz_0, nz_1, if_true, if_false, reduceIte, and_true, true_and, and_false, false_and, b2_0, b2_1, Bool.true_eq_false, Bool.false_eq_true, not_true_eq_false, not_false_eq_true, show φ 112 w = nI y1 from y3]⟩, ⟨z1, z2, z3, by simp (disch := omega) only [rdN, wrN, rdZ, wrZ, p_put_eq, call_some, nzN, boN, nI_1, nI_add, pk_mul, lit_4, lit_16, le_T, le_F, lt_T, lt_F, eq_T, eq_F, le_T0, le_F0, lt_F0, lt_T0, eq_T0, eq_F0, eqm_F, up_s2, up_n2, Ev_some, nz_0, nz_1, if_true, if_false, reduceIte, and_true, true_and, and_false, false_and, b2_0, b2_1, Bool.true_eq_false, Bool.false_eq_true, not_true_eq_false, not_false_eq_true, show φ 113 w = nI z1 from z4]⟩, w1, w2, by simp (disch := omega) only [rdN, wrN, rdZ, wrZ, p_put_eq, call_some, nzN, boN, nI_1, nI_add, pk_mul, lit_4, lit_16, le_T, le_F, lt_T, lt_F, eq_T, eq_F, le_T0, le_F0, lt_F0, lt_T0, eq_T0, eq_F0, eqm_F, up_s2, up_n2, Ev_some, nz_0, nz_1, if_true, if_false, reduceIte, and_true, true_and, and_false, false_and, b2_0, b2_1, Bool.true_eq_false, Bool.false_eq_true, not_true_eq_false, not_false_eq_true, show φ 114 w = nI w1 from w3]⟩
    · obtain ⟨G1, G2, G3, G4, G5, G6⟩ := g2
      have fr : ∀ x, x < 29 → sg_up (sg_up (sg_up (sg_up υ 30 N (nI kd)) 31 N (nI s)) 32 N 0) 29 0 (nI (N + 1)) x = υ x := fun x hx => by rw [up_a (by omega), up_a (by omega), up_a (by omega), up_a (by omega)]
      have gr : ∀ x, x ≠ 103 → x ≠ 112 → x ≠ 113 → x ≠ 114 → sg_up (sg_up (sg_up (sg_up φ 112 N (nI kd)) 113 N (nI s)) 114 N 0) 103 13 (nI (N + 1)) x = φ x := fun x x1 x2 x3 x4 => by rw [up_a x1, up_a x4, up_a x3, up_a x2]
      have m : ∀ j, j < 7 → gM (sg_up (sg_up (sg_up (sg_up φ 112 N (nI kd)) 113 N (nI s)) 114 N 0) 103 13 (nI (N + 1))) j = gM φ j := fun j hj => by rw [gM_at (by omega), gM_at (by omega), gr _ (by omega) (by omega) (by omega) (by omega)]
      refine ⟨?_, ?_, ?_, ?_, ?_, fun w hw => ?_⟩
      · rw [m 0 (by decide), m 1 (by decide)]; exact G1.fr (fun j hj => fr _ (by omega))
      · rw [fr (17 + 4) (by decide)]; exact G2
      · rw [fr (17 + 5) (by decide), m 2 (by decide)]; exact G3
      · rw [fr (17 + 7) (by decide), fr (17 + 8) (by decide), fr (17 + 9) (by decide), fr (17 + 10) (by decide), fr (17 + 11) (by decide), m 3 (by decide), m 4 (by decide), m 5 (by decide), m 6 (by decide)]; exact G4
      · show sg_up (sg_up (sg_up (sg_up υ 30 N (nI kd)) 31 N (nI s)) 32 N 0) 29 0 (nI (N + 1)) 29 0 = sg_up (sg_up (sg_up (sg_up φ 112 N (nI kd)) 113 N (nI s)) 114 N 0) 103 13 (nI (N + 1)) 103 13
        simp (disch := omega) only [rdN, wrN, rdZ, wrZ, p_put_eq, call_some, nzN, boN, nI_1, nI_add, pk_mul, lit_4, lit_16, le_T, le_F, lt_T, lt_F, eq_T, eq_F, le_T0, le_F0, lt_F0, lt_T0, eq_T0, eq_F0, eqm_F, up_s2, up_n2, Ev_some, nz_0, nz_1, if_true, if_false, reduceIte, and_true, true_and, and_false, false_and, b2_0, b2_1, Bool.true_eq_false, Bool.false_eq_true, not_true_eq_false, not_false_eq_true]
      · obtain ⟨x1, x2, x3⟩ := G6 w hw
        have x1' : υ 30 w = φ 112 w := x1
        have x2' : υ 31 w = φ 113 w := x2
        have x3' : υ 32 w = φ 114 w := x3
        show sg_up (sg_up (sg_up (sg_up υ 30 N (nI kd)) 31 N (nI s)) 32 N 0) 29 0 (nI (N + 1)) 30 w = sg_up (sg_up (sg_up (sg_up φ 112 N (nI kd)) 113 N (nI s)) 114 N 0) 103 13 (nI (N + 1)) 112 w ∧ sg_up (sg_up (sg_up (sg_up υ 30 N (nI kd)) 31 N (nI s)) 32 N 0) 29 0 (nI (N + 1)) 31 w = sg_up (sg_up (sg_up (sg_up φ 112 N (nI kd)) 113 N (nI s)) 114 N 0) 103 13 (nI (N + 1)) 113 w ∧ sg_up (sg_up (sg_up (sg_up υ 30 N (nI kd)) 31 N (nI s)) 32 N 0) 29 0 (nI (N + 1)) 32 w = sg_up (sg_up (sg_up (sg_up φ 112 N (nI kd)) 113 N (nI s)) 114 N 0) 103 13 (nI (N + 1)) 114 w
        by_cases z : w = N
        · subst z
          simp (disch := omega) only [rdN, wrN, rdZ, wrZ, p_put_eq, call_some, nzN, boN, nI_1, nI_add, pk_mul, lit_4, lit_16, le_T, le_F, lt_T, lt_F, eq_T, eq_F, le_T0, le_F0, lt_F0, lt_T0, eq_T0, eq_F0, eqm_F, up_s2, up_n2, Ev_some, nz_0, nz_1, if_true, if_false, reduceIte, and_true, true_and, and_false, false_and, b2_0, b2_1, Bool.true_eq_false, Bool.false_eq_true, not_true_eq_false, not_false_eq_true]
        · simp (disch := omega) only [rdN, wrN, rdZ, wrZ, p_put_eq, call_some, nzN, boN, nI_1, nI_add, pk_mul, lit_4, lit_16, le_T, le_F, lt_T, lt_F, eq_T, eq_F, le_T0, le_F0, lt_F0, lt_T0, eq_T0, eq_F0, eqm_F, up_s2, up_n2, Ev_some, nz_0, nz_1, if_true, if_false, reduceIte, and_true, true_and, and_false, false_and, b2_0, b2_1, Bool.true_eq_false, Bool.false_eq_true, not_true_eq_false, not_false_eq_true, x1', x2', x3']
    · simp (disch := omega) only [up_a]; exact h2 x hx
    · simp (disch := omega) only [up_a]; exact h3 x a1 a2
    · simp (disch := omega) only [up_n2]; exact h4 b hb'
  · have : N = 6 := by omega
    subst this
    rw [if_neg (show ¬ nI 6 < (6 : Int32) by decide), if_pos (show nI 6 = (6 : Int32) from rfl)]
    exact ⟨false, υ, φ, rfl, rfl, h⟩
end TO
