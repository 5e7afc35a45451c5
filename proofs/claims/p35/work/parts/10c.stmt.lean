/-! the tape: a statement, as the reference reads it; what a good one looks like -/
section TS
variable {n : Nat} {B : Nat → Nat} {τ : Sg} {a : Nat}
theorem set0_4 {b : Nat} (h : setB 0 b = true) : b = 122 ∨ b = 101 ∨ b = 99 ∨ b = 112 := by
  unfold setB at h
  simp only [Bool.or_eq_true, decide_eq_true_eq] at h
  omega
theorem y_statement {k : Nat} (hB : TB n B) (h : TR τ n B) (ha : a < 600) (hk : k < 32) (hk3 : τ 103 23 = nI k) : Ev (f_X11_statement 103 (mvA τ a)) (fun v υ => v = b2 (!(stP n B (a, false)).2) ∧ ∃ τ', υ = mvA τ' (stP n B (a, false)).1 ∧ AR τ τ' k ∧ ((stP n B (a, false)).2 = false → DA τ' n B k a)) := by
  unfold f_X11_statement
  rw [y_nextByte hB h (by omega), call_some, mv_s (by decide), hk3, show (122 : Int32) = nI 122 from rfl, show (101 : Int32) = nI 101 from rfl, show (99 : Int32) = nI 99 from rfl, show (112 : Int32) = nI 112 from rfl]
  have hst : stP n B (a, false) = pz n B 6 (stM n B (nb n B a) (pz n B 0 (a, false))) := rfl
  rw [hst, pz_f]
  have e0 : setB 0 (nb n B a) = (decide (nb n B a = 122) || decide (nb n B a = 101) || decide (nb n B a = 99) || decide (nb n B a = 112)) := rfl
  -- the notes
  have T1 : TR (sg_up (sg_up τ 116 k (nI (nb n B a))) 117 k (nI a)) n B := (h.up (by decide)).up (by decide)
  have A1 : AR τ (sg_up (sg_up τ 116 k (nI (nb n B a))) 117 k (nI a)) k := (AR.refl.up (by decide)).up (by decide)
  have V1 : sg_up (sg_up τ 116 k (nI (nb n B a))) 117 k (nI a) 116 k = nI (nb n B a) ∧ sg_up (sg_up τ 116 k (nI (nb n B a))) 117 k (nI a) 117 k = nI a := ⟨by simp (disch := omega) only [rdN, wrN, rdZ, wrZ, p_put_eq, call_some, nzN, boN, nI_1, nI_add, pk_mul, lit_4, lit_16, le_T, le_F, lt_T, lt_F, eq_T, eq_F, le_T0, le_F0, lt_F0, lt_T0, eq_T0, eq_F0, eqm_F, up_s2, up_n2, Ev_some, nz_0, nz_1, if_true, if_false, reduceIte, and_true, true_and, and_false, false_and, b2_0, b2_1, Bool.true_eq_false, Bool.false_eq_true, not_true_eq_false, not_false_eq_true], by simp (disch := omega) only [rdN, wrN, rdZ, wrZ, p_put_eq, call_some, nzN, boN, nI_1, nI_add, pk_mul, lit_4, lit_16, le_T, le_F, lt_T, lt_F, eq_T, eq_F, le_T0, le_F0, lt_F0, lt_T0, eq_T0, eq_F0, eqm_F, up_s2, up_n2, Ev_some, nz_0, nz_1, if_true, if_false, reduceIte, and_true, true_and, and_false, false_and, b2_0, b2_1, Bool.true_eq_false, Bool.false_eq_true, not_true_eq_false, not_false_eq_true]⟩
  have note : ∀ K, p_wr (mvA τ a) (103 + 13) 32 (nI k) (nI (nb n B a)) (fun s1 => p_wr s1 (103 + 14) 32 (nI k) (s1 103 22) (fun s2 => p_put s2 103 22 (s2 103 22 + 1) K)) = K (mvA (sg_up (sg_up τ 116 k (nI (nb n B a))) 117 k (nI a)) (a + 1)) := fun K => by
    rw [wrN (by omega) (by decide), mv_up (by decide), mv_at, wrN (by omega) (by decide), mv_up (by decide), p_put_eq, mv_at, nI_1, mv_mv]
  generalize sg_up (sg_up τ 116 k (nI (nb n B a))) 117 k (nI a) = τ1 at T1 A1 V1 note
  have trA : ∀ τ', AR τ1 τ' k → AR τ τ' k := fun τ' h2 => ⟨fun x hx => (h2.1 x hx).trans (A1.1 x hx), fun x j hj => (h2.2 x j hj).trans (A1.2 x j hj)⟩
  by_cases h122 : nb n B a = 122
  · have en : nbI (nb n B a) = nI (nb n B a) := by unfold nbI; rw [if_neg (by omega)]
    have e1 : setB 0 (nb n B a) = true := by rw [e0, decide_eq_true h122]; rfl
    rw [e1, if_pos rfl, if_pos (cast (nbI_eq hB (by decide)).symm h122), en]
    unfold f_X11_statement_b36 f_X11_statement_b135
    rw [note, h122, if_neg (show ¬ nI 122 = (101 : Int32) by decide), if_neg (show ¬ nI 122 = (112 : Int32) by decide), if_pos (show nI 122 = (122 : Int32) from rfl)]
    have em : stM n B 122 (a + 1, false) = pz n B 1 (pz n B 1 (a + 1, false)) := rfl
    rw [em, y_num1 hB T1 (by omega), call_some, wrN (by omega) (by decide), rdN (by omega) (by decide), up_s2 ⟨rfl, rfl⟩, mv_up (by decide), pz_f (a := a + 1)]
    cases hd : setB 1 (nb n B (a + 1)) with
    | false =>
      simp only [Bool.false_eq_true, if_false]
      rw [if_pos (show (-1 : Int32) < 0 by decide), Ev_some]
      exact ⟨rfl, _, rfl, trA _ (AR.refl.up (by decide)), fun u => by cases u⟩
    | true =>
      obtain ⟨d1, d2⟩ := dg_r hd
      rw [if_pos rfl, if_neg (nI_pos (by omega)), if_pos rfl, if_pos rfl, if_neg (show ¬ nI 122 = (99 : Int32) by decide)]
      refine (y_tail hB (T1.up (by decide)) (by omega) hk).mono (fun v υ ⟨z1, τ', z2, z3, z4, z5⟩ => ⟨z1, τ', z2, trA _ ⟨fun x hx => (z3.1 x hx).trans (up_a (by omega)), fun x j hj => (z3.2 x j hj).trans (up_n2 (by omega))⟩, fun u => ?_⟩)
      refine ⟨by rw [z4 116 (by decide), up_a (by decide), V1.1], by rw [z4 117 (by decide), up_a (by decide), V1.2], ?_, ?_, fun e => by omega⟩
      · rw [z4 118 (by decide), up_s2 ⟨rfl, rfl⟩]
        unfold fF
        rw [if_pos h122]
      · rw [z5 u]
        unfold fS
        rw [if_pos (.inl h122)]
        rfl
  rw [if_neg (fun e => h122 (cast (nbI_eq hB (by decide)) e))]
  by_cases h101 : nb n B a = 101
  · have en : nbI (nb n B a) = nI (nb n B a) := by unfold nbI; rw [if_neg (by omega)]
    have e1 : setB 0 (nb n B a) = true := by rw [e0, decide_eq_false h122, decide_eq_true h101]; rfl
    rw [e1, if_pos rfl, if_pos (cast (nbI_eq hB (by decide)).symm h101), en]
    unfold f_X11_statement_b36
    rw [note, h101, if_pos (show nI 101 = (101 : Int32) from rfl)]
    have em : stM n B 101 (a + 1, false) = pz n B 1 (pz n B 3 (pz n B 2 (cellP n B (a + 1, false)))) := rfl
    rw [em]
    refine Ev.call (y_edge hB T1 (by omega) hk) (fun v υ ⟨z1, τ', z2, z3, z4, z5⟩ => ?_)
    rw [z1, boN, Ev_some]
    refine ⟨rfl, τ', z2, trA _ z3, fun u => ?_⟩
    obtain ⟨w1, w2, w3⟩ := z5 u
    refine ⟨by rw [z4 116 (by decide)]; exact V1.1, by rw [z4 117 (by decide)]; exact V1.2, ?_, ?_, fun _ => w3⟩
    · rw [w1]
      unfold fF
      rw [if_neg h122, if_neg (by omega)]
    · rw [w2]
      unfold fS
      rw [if_neg (show ¬ (nb n B a = 122 ∨ nb n B a = 112) by omega), if_neg (show ¬ nb n B a = 99 by omega)]
  rw [if_neg (fun e => h101 (cast (nbI_eq hB (by decide)) e))]
  by_cases h99 : nb n B a = 99
  · have en : nbI (nb n B a) = nI (nb n B a) := by unfold nbI; rw [if_neg (by omega)]
    have e1 : setB 0 (nb n B a) = true := by rw [e0, decide_eq_false h122, decide_eq_false h101, decide_eq_true h99]; rfl
    rw [e1, if_pos rfl, if_pos (cast (nbI_eq hB (by decide)).symm h99), en]
    unfold f_X11_statement_b36 f_X11_statement_b135
    rw [note, h99, if_neg (show ¬ nI 99 = (101 : Int32) by decide), if_neg (show ¬ nI 99 = (112 : Int32) by decide), if_neg (show ¬ nI 99 = (122 : Int32) by decide)]
    have em : stM n B 99 (a + 1, false) = pz n B 1 (pz n B 4 (cellP n B (a + 1, false))) := rfl
    rw [em, y_num2 hB T1 (by omega), call_some, wrN (by omega) (by decide), rdN (by omega) (by decide), up_s2 ⟨rfl, rfl⟩, mv_up (by decide), cellP_f]
    cases hd : setB 1 (nb n B (a + 1)) with
    | false =>
      simp only [Bool.false_eq_true, if_false]
      rw [if_pos (show (-1 : Int32) < 0 by decide), Ev_some]
      exact ⟨rfl, _, rfl, trA _ (AR.refl.up (by decide)), fun u => by cases u⟩
    | true =>
      obtain ⟨d1, d2⟩ := dg_r hd
      rw [if_pos rfl, if_pos rfl, if_pos rfl]
      have enu : (if setB 1 (nb n B (a + 1 + 1)) = true then 10 * (nb n B (a + 1) - 48) + (nb n B (a + 1 + 1) - 48) else nb n B (a + 1) - 48) = nuV n B a := rfl
      have eq1 : (if setB 1 (nb n B (a + 1 + 1)) = true then a + 1 + 2 else a + 1 + 1) = qN n B a := rfl
      have eq2 : (if setB 1 (nb n B (a + 1 + 1)) = true then (a + 1 + 2, false) else (a + 1 + 1, false)) = (qN n B a, false) := by
        unfold qN
        cases setB 1 (nb n B (a + 2)) <;> rfl
      have hnu : nuV n B a < 1000 := by
        unfold nuV
        by_cases z : setB 1 (nb n B (a + 2)) = true
        · rw [if_pos z]
          have := dg_r z
          omega
        · rw [if_neg z]; omega
      have hq : qN n B a ≤ a + 3 := by
        unfold qN
        by_cases z : setB 1 (nb n B (a + 2)) = true
        · rw [if_pos z]; omega
        · rw [if_neg z]; omega
      rw [enu, eq1, eq2, if_neg (nI_pos (by omega)), if_pos (show nI 99 = (99 : Int32) from rfl), show (44 : Int32) = nI 44 from rfl, y_isNextB hB (T1.up (by decide)) (by omega) (by decide), call_some, pz_f (a := qN n B a)]
      have e4 : setB 4 (nb n B (qN n B a)) = decide (nb n B (qN n B a) = 44) := rfl
      rw [e4]
      by_cases h44 : nb n B (qN n B a) = 44
      · rw [decide_eq_true h44, if_pos h44, if_neg (show ¬ b2 true = 0 by decide), if_pos rfl]
        refine (y_tail hB (T1.up (by decide)) (by omega) hk).mono (fun v υ ⟨z1, τ', z2, z3, z4, z5⟩ => ⟨z1, τ', z2, trA _ ⟨fun x hx => (z3.1 x hx).trans (up_a (by omega)), fun x j hj => (z3.2 x j hj).trans (up_n2 (by omega))⟩, fun u => ?_⟩)
        refine ⟨by rw [z4 116 (by decide), up_a (by decide), V1.1], by rw [z4 117 (by decide), up_a (by decide), V1.2], ?_, ?_, fun e => by omega⟩
        · rw [z4 118 (by decide), up_s2 ⟨rfl, rfl⟩]
          unfold fF
          rw [if_neg h122, if_neg (by omega)]
        · rw [z5 u]
          unfold fS
          rw [if_neg (by omega), if_pos h99]
          rfl
      · rw [decide_eq_false h44, if_neg h44, if_pos (show b2 false = 0 from rfl), Ev_some, if_neg (by decide)]
        exact ⟨rfl, _, rfl, trA _ (AR.refl.up (by decide)), fun u => by cases u⟩
  rw [if_neg (fun e => h99 (cast (nbI_eq hB (by decide)) e))]
  by_cases h112 : nb n B a = 112
  · have en : nbI (nb n B a) = nI (nb n B a) := by unfold nbI; rw [if_neg (by omega)]
    have e1 : setB 0 (nb n B a) = true := by rw [e0, decide_eq_false h122, decide_eq_false h101, decide_eq_false h99, decide_eq_true h112]; rfl
    rw [e1, if_pos rfl, if_pos (cast (nbI_eq hB (by decide)).symm h112), en]
    unfold f_X11_statement_b36
    rw [note, h112, if_neg (show ¬ nI 112 = (101 : Int32) by decide), if_pos (show nI 112 = (112 : Int32) from rfl)]
    have em : stM n B 112 (a + 1, false) = pz n B 1 (pz n B 5 (a + 1, false)) := rfl
    rw [em, y_nextByte hB T1 (by omega), call_some, y_kind hB, call_some, wrN (by omega) (by decide), rdN (by omega) (by decide), up_s2 ⟨rfl, rfl⟩, mv_up (by decide), pz_f (a := a + 1)]
    cases hd : setB 5 (nb n B (a + 1)) with
    | false =>
      simp only [Bool.false_eq_true, if_false]
      rw [if_neg (show ¬ (0 : Int32) ≤ -1 by decide), Ev_some]
      exact ⟨rfl, _, rfl, trA _ (AR.refl.up (by decide)), fun u => by cases u⟩
    | true =>
      have hkd := kdN_lt (b := nb n B (a + 1))
      rw [if_pos rfl, if_pos (nI_pos' (by omega)), p_put_eq, mv_at, nI_1, mv_mv, if_pos rfl]
      refine (y_tail hB (T1.up (by decide)) (by omega) hk).mono (fun v υ ⟨z1, τ', z2, z3, z4, z5⟩ => ⟨z1, τ', z2, trA _ ⟨fun x hx => (z3.1 x hx).trans (up_a (by omega)), fun x j hj => (z3.2 x j hj).trans (up_n2 (by omega))⟩, fun u => ?_⟩)
      refine ⟨by rw [z4 116 (by decide), up_a (by decide), V1.1], by rw [z4 117 (by decide), up_a (by decide), V1.2], ?_, ?_, fun e => by omega⟩
      · rw [z4 118 (by decide), up_s2 ⟨rfl, rfl⟩]
        unfold fF
        rw [if_neg h122, if_pos h112]
      · rw [z5 u]
        unfold fS
        rw [if_pos (.inr h112)]
        rfl
  rw [if_neg (fun e => h112 (cast (nbI_eq hB (by decide)) e)), Ev_some]
  have e1 : setB 0 (nb n B a) = false := by rw [e0, decide_eq_false h122, decide_eq_false h101, decide_eq_false h99, decide_eq_false h112]; rfl
  rw [e1, if_neg (by decide), st_t]
  exact ⟨rfl, τ, rfl, AR.refl, fun u => by cases u⟩
theorem pz_inv {c x : Nat} {s : Nat × Bool} (h : pz n B c s = (x, false)) : s.2 = false ∧ setB c (nb n B s.1) = true ∧ x = s.1 + 1 := by
  unfold pz at h
  by_cases hb : (!s.2 && setB c (nb n B s.1)) = true
  · rw [if_pos hb] at h
    rw [Bool.and_eq_true] at hb
    obtain ⟨h1, h2⟩ := hb
    refine ⟨by simpa using h1, h2, ?_⟩
    exact (congrArg Prod.fst h).symm
  · rw [if_neg hb] at h
    cases (congrArg Prod.snd h)
/-- the shapes of good statements: from a, behind the end nx -/
def SH (n : Nat) (B : Nat → Nat) (a nx : Nat) : Prop := (nb n B a = 122 ∧ nx = a + 4 ∧ setB 1 (nb n B (a + 1)) = true ∧ setB 1 (nb n B (a + 2)) = true) ∨ (nb n B a = 112 ∧ nx = a + 4 ∧ setB 5 (nb n B (a + 1)) = true ∧ setB 1 (nb n B (a + 2)) = true) ∨ (nb n B a = 99 ∧ nx = qN n B a + 3 ∧ setB 1 (nb n B (a + 1)) = true ∧ nb n B (qN n B a) = 44 ∧ setB 1 (nb n B (qN n B a + 1)) = true) ∨ (nb n B a = 101 ∧ nx = qN n B a + 4 ∧ setB 1 (nb n B (a + 1)) = true ∧ setB 2 (nb n B (qN n B a)) = true ∧ setB 3 (nb n B (qN n B a + 1)) = true ∧ setB 1 (nb n B (qN n B a + 2)) = true)
theorem cellP_inv {x : Nat} (h : (cellP n B (a + 1, false)).2 = false) : setB 1 (nb n B (a + 1)) = true ∧ cellP n B (a + 1, false) = (qN n B a, false) := by
  rw [cellP_f] at h ⊢
  cases hd : setB 1 (nb n B (a + 1)) with
  | false => rw [hd] at h; cases h
  | true =>
    refine ⟨rfl, ?_⟩
    rw [if_pos rfl]
    unfold qN
    cases setB 1 (nb n B (a + 2)) <;> rfl
theorem st_ok {nx : Nat} (h : stP n B (a, false) = (nx, false)) : SH n B a nx ∧ nb n B (nx - 1) = 59 := by
  have hst : stP n B (a, false) = pz n B 6 (stM n B (nb n B a) (pz n B 0 (a, false))) := rfl
  rw [hst] at h
  obtain ⟨h1, h2, h3⟩ := pz_inv h
  have hend : nb n B (nx - 1) = 59 := by
    rw [h3, Nat.add_sub_cancel]
    exact of_decide_eq_true h2
  refine ⟨?_, hend⟩
  rw [pz_f] at h1 h2 h3
  cases h0 : setB 0 (nb n B a) with
  | false =>
    rw [h0, if_neg (by decide)] at h1
    have : (pz n B 6 (stM n B (nb n B a) (a, true))).2 = true := by rw [st_t]
    have hs : (stM n B (nb n B a) (a, true)).2 = true := by
      unfold stM
      by_cases w1 : nb n B a = 99
      · rw [if_pos w1]; rfl
      · rw [if_neg w1]
        by_cases w2 : nb n B a = 101
        · rw [if_pos w2]; rfl
        · rw [if_neg w2]
          by_cases w3 : nb n B a = 122
          · rw [if_pos w3]; rfl
          · rw [if_neg w3]; rfl
    rw [hs] at h1
    cases h1
  | true =>
    rw [h0, if_pos rfl] at h1 h3
    unfold stM at h1 h3
    rcases set0_4 h0 with e | e | e | e
    · rw [if_neg (by omega), if_neg (by omega), if_pos e] at h1 h3
      obtain ⟨x, hx⟩ : ∃ x, pz n B 1 (pz n B 1 (a + 1, false)) = (x, false) := ⟨_, Prod.ext rfl h1⟩
      obtain ⟨u1, u2, u3⟩ := pz_inv hx
      obtain ⟨y, hy⟩ : ∃ y, pz n B 1 (a + 1, false) = (y, false) := ⟨_, Prod.ext rfl u1⟩
      obtain ⟨-, v2, v3⟩ := pz_inv hy
      rw [hx] at h3
      rw [hy] at u2 u3
      have v3' : y = a + 1 + 1 := v3
      have u3' : x = y + 1 := u3
      have h3' : nx = x + 1 := h3
      subst v3'
      exact .inl ⟨e, by omega, v2, u2⟩
    · rw [if_neg (by omega), if_pos e] at h1 h3
      obtain ⟨x, hx⟩ : ∃ x, pz n B 1 (pz n B 3 (pz n B 2 (cellP n B (a + 1, false)))) = (x, false) := ⟨_, Prod.ext rfl h1⟩
      obtain ⟨u1, u2, u3⟩ := pz_inv hx
      obtain ⟨y, hy⟩ : ∃ y, pz n B 3 (pz n B 2 (cellP n B (a + 1, false))) = (y, false) := ⟨_, Prod.ext rfl u1⟩
      obtain ⟨v1, v2, v3⟩ := pz_inv hy
      obtain ⟨z, hz⟩ : ∃ z, pz n B 2 (cellP n B (a + 1, false)) = (z, false) := ⟨_, Prod.ext rfl v1⟩
      obtain ⟨w1, w2, w3⟩ := pz_inv hz
      obtain ⟨c1, c2⟩ := cellP_inv (x := 0) w1
      rw [hx] at h3
      rw [hy] at u2 u3
      rw [hz] at v2 v3
      rw [c2] at w2 w3
      have w3' : z = qN n B a + 1 := w3
      have v3' : y = z + 1 := v3
      have u3' : x = y + 1 := u3
      have h3' : nx = x + 1 := h3
      subst w3' v3'
      exact .inr (.inr (.inr ⟨e, by omega, c1, w2, v2, u2⟩))
    · rw [if_pos e] at h1 h3
      obtain ⟨x, hx⟩ : ∃ x, pz n B 1 (pz n B 4 (cellP n B (a + 1, false))) = (x, false) := ⟨_, Prod.ext rfl h1⟩
      obtain ⟨u1, u2, u3⟩ := pz_inv hx
      obtain ⟨z, hz⟩ : ∃ z, pz n B 4 (cellP n B (a + 1, false)) = (z, false) := ⟨_, Prod.ext rfl u1⟩
      obtain ⟨w1, w2, w3⟩ := pz_inv hz
      obtain ⟨c1, c2⟩ := cellP_inv (x := 0) w1
      rw [hx] at h3
      rw [hz] at u2 u3
      rw [c2] at w2 w3
      have w3' : z = qN n B a + 1 := w3
      have u3' : x = z + 1 := u3
      have h3' : nx = x + 1 := h3
      subst w3'
      exact .inr (.inr (.inl ⟨e, by omega, c1, of_decide_eq_true w2, u2⟩))
    · rw [if_neg (by omega), if_neg (by omega), if_neg (by omega)] at h1 h3
      obtain ⟨x, hx⟩ : ∃ x, pz n B 1 (pz n B 5 (a + 1, false)) = (x, false) := ⟨_, Prod.ext rfl h1⟩
      obtain ⟨u1, u2, u3⟩ := pz_inv hx
      obtain ⟨y, hy⟩ : ∃ y, pz n B 5 (a + 1, false) = (y, false) := ⟨_, Prod.ext rfl u1⟩
      obtain ⟨-, v2, v3⟩ := pz_inv hy
      rw [hx] at h3
      rw [hy] at u2 u3
      have v3' : y = a + 1 + 1 := v3
      have u3' : x = y + 1 := u3
      have h3' : nx = x + 1 := h3
      subst v3'
      exact .inr (.inl ⟨e, by omega, v2, u2⟩)
end TS
