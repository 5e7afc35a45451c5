/-! the reference goes through the ways: the loop -/
section SM2
variable {k r c : Nat} {ri dn : Nat → Int32}
def frB (pc : Nat → Int32) (r c : Nat) : Nat → Bool := fun p => !(laidB pc (r * c) (nI p))
def ftB (ri dn pc tn : Nat → Int32) (r c q : Nat) : Nat → Nat → Bool := fun p t => fit ri dn pc tn r c p t q
def goB (ri dn pc tn : Nat → Int32) (r c d q : Nat) : Nat → Nat → SS → SS := fun p t s' => sr ri dn r c d (ut pc q (nI p)) (ut tn q (nI t)) s'
/-- from candidate n on at cell q, d cells behind it -/
def ZOk (k r c : Nat) (ri dn : Nat → Int32) (d : Nat) : Prop := ∀ (q : Nat) (pc tn : Nat → Int32) (Q : Int32 → Sg → Prop), q + (d + 1) = r * c → Lay pc tn (r * c) q → ∀ (m n F : Nat) (τ : Sg) (x : Int32) (s : SS), m + n = 4 * (r * c) → Sz τ k r c → τ (k + 2) = ri → τ (k + 3) = dn → RM τ k pc tn → RS τ k (r * c) s → Us x pc (r * c) → s.2.1 ≤ s.1 → s.1 ≤ 20001 → m + 65 * (20001 - s.1) + 2 ≤ F →
  (∀ (F' : Nat) (τ' : Sg) (x' : Int32), F ≤ F' + m + 65 * ((sr_c (goB ri dn pc tn r c d q) (frB pc r c) (ftB ri dn pc tn r c q) m n s).1 - s.1) → (sr_c (goB ri dn pc tn r c d q) (frB pc r c) (ftB ri dn pc tn r c q) m n s).1 ≤ 20000 → FW τ τ' k → RM τ' k pc tn → RS τ' k (r * c) (sr_c (goB ri dn pc tn r c d q) (frB pc r c) (ftB ri dn pc tn r c q) m n s) → Us x' pc (r * c) → Ev (f_X11_findWays_b48 k F' (nI q) (nI (4 * (r * c))) x' τ') Q) →
  (∀ τ' : Sg, 20000 < (sr_c (goB ri dn pc tn r c d q) (frB pc r c) (ftB ri dn pc tn r c q) m n s).1 → FW τ τ' k → RS τ' k (r * c) (sr_c (goB ri dn pc tn r c d q) (frB pc r c) (ftB ri dn pc tn r c q) m n s) → Ev (f_X11_findWays_b299 k τ') Q) → Ev (f_X11_findWays_b48 k F (nI q) (nI n) x τ) Q
theorem z_stop {τ : Sg} {q F : Nat} {x y : Int32} {s : SS} (hq : q < 100) (hS : RS τ k (r * c) s) (hs : 20000 < s.1) (hs2 : s.1 ≤ 20001) (hF : 1 ≤ F) : f_X11_findWays_b48 k F (nI q) y x τ = f_X11_findWays_b299 k τ := by
  obtain ⟨F', rfl⟩ : ∃ F', F = F' + 1 := ⟨F - 1, by omega⟩
  rw [f_X11_findWays_b48, hS.1]
  simp (disch := omega) only [rdN, wrN, rdZ, wrZ, p_put_eq, call_some, nzN, boN, nI_1, nI_add, pk_mul, lit_4, lit_16, le_T, le_F, lt_T, lt_F, eq_T, eq_F, le_T0, le_F0, lt_F0, lt_T0, eq_T0, eq_F0, eqm_F, up_s2, up_n2, Ev_some, nz_0, nz_1, if_true, if_false, reduceIte, and_true, true_and, and_false, false_and, b2_0, b2_1, Bool.true_eq_false, Bool.false_eq_true, not_true_eq_false, not_false_eq_true, show (20000 : Int32) = nI 20000 from rfl]
/-- after the candidate n: on with n + 1 -/
theorem z_step {d : Nat} (hd : d = 0 ∨ ∃ d', d = d' + 1 ∧ ZOk k r c ri dn d') : ZOk k r c ri dn d := by
  intro q pc tn Q hqd hl m
  induction m with
  | zero =>
    intro n F τ x s hmn hz hri hdn hM hS hU hs1 hs2 hF hend habort
    have hrc := hz.rc
    rw [sr_c] at hend habort
    have hn : n = 4 * (r * c) := by omega
    subst hn
    rcases Nat.lt_or_ge 20000 s.1 with u | u
    · rw [z_stop (by omega) hS u hs2 (by omega)]
      exact habort τ u FW.refl hS
    · exact hend F τ x (by omega) u FW.refl hM hS hU
  | succ m ih =>
    intro n F τ x s hmn hz hri hdn hM hS hU hs1 hs2 hF hend habort
    have hrc := hz.rc
    have hpos : 4 ≤ r * c := Nat.mul_le_mul hz.2.2.1.1 hz.2.2.2.1
    obtain ⟨F1, rfl⟩ : ∃ F1, F = F1 + 1 := ⟨F - 1, by omega⟩
    rcases Nat.lt_or_ge 20000 s.1 with u | u
    · rw [sr_stop _ _ _ u] at hend habort
      rw [z_stop (by omega) hS u hs2 (by omega)]
      exact habort τ u FW.refl hS
    have hp4 : n / 4 < r * c := by omega
    have ht4 : n % 4 < 4 := by omega
    have hqr : q < r * c := by omega
    have hpq : pc q = -1 := hl.2 q (Nat.le_refl _) (by omega)
    rw [sr_c, if_neg (by omega)] at hend habort
    rw [f_X11_findWays_b48, hS.1]
    have e1 : nI n / nI 4 = nI (n / 4) := pk_div (by omega) (by decide) (by decide)
    have e2 : nI n - nI (n / 4) * nI 4 = nI (n % 4) := by rw [← e1]; exact pk_rem (by omega) (by decide) (by decide)
    have e3 : nI n - nI (n / 4 * 4) = nI (n % 4) := by rw [← pk_mul]; exact e2
    simp (disch := omega) only [rdN, wrN, rdZ, wrZ, p_put_eq, call_some, nzN, boN, nI_1, nI_add, pk_mul, lit_4, lit_16, le_T, le_F, lt_T, lt_F, eq_T, eq_F, le_T0, le_F0, lt_F0, lt_T0, eq_T0, eq_F0, eqm_F, up_s2, up_n2, Ev_some, nz_0, nz_1, if_true, if_false, reduceIte, and_true, true_and, and_false, false_and, b2_0, b2_1, Bool.true_eq_false, Bool.false_eq_true, not_true_eq_false, not_false_eq_true, show (20000 : Int32) = nI 20000 from rfl, y_cells hz, e1, e3, bit_at (show n / 4 < 32 by omega), hU (n / 4) (by omega), hS.1]
    cases hfree : laidB pc (r * c) (nI (n / 4)) with
    | true =>
      have hfr : frB pc r c (n / 4) = false := by unfold frB; rw [hfree]; rfl
      rw [hfr, if_neg (by decide)] at hend habort
      simp (disch := omega) only [rdN, wrN, rdZ, wrZ, p_put_eq, call_some, nzN, boN, nI_1, nI_add, pk_mul, lit_4, lit_16, le_T, le_F, lt_T, lt_F, eq_T, eq_F, le_T0, le_F0, lt_F0, lt_T0, eq_T0, eq_F0, eqm_F, up_s2, up_n2, Ev_some, nz_0, nz_1, if_true, if_false, reduceIte, and_true, true_and, and_false, false_and, b2_0, b2_1, Bool.true_eq_false, Bool.false_eq_true, not_true_eq_false, not_false_eq_true]
      exact ih (n + 1) F1 τ x s (by omega) hz hri hdn hM hS hU hs1 hs2 (by omega) (fun F' τ' x' a => hend F' τ' x' (by omega)) habort
    | false =>
      have hfr : frB pc r c (n / 4) = true := by unfold frB; rw [hfree]; rfl
      rw [hfr, if_pos rfl] at hend habort
      simp (disch := omega) only [rdN, wrN, rdZ, wrZ, p_put_eq, call_some, nzN, boN, nI_1, nI_add, pk_mul, lit_4, lit_16, le_T, le_F, lt_T, lt_F, eq_T, eq_F, le_T0, le_F0, lt_F0, lt_T0, eq_T0, eq_F0, eqm_F, up_s2, up_n2, Ev_some, nz_0, nz_1, if_true, if_false, reduceIte, and_true, true_and, and_false, false_and, b2_0, b2_1, Bool.true_eq_false, Bool.false_eq_true, not_true_eq_false, not_false_eq_true]
      have S1 : RS (sg_up τ k 31 (nI (s.1 + 1))) k (r * c) (s.1 + 1, s.2) := ⟨by simp (disch := omega) only [rdN, wrN, rdZ, wrZ, p_put_eq, call_some, nzN, boN, nI_1, nI_add, pk_mul, lit_4, lit_16, le_T, le_F, lt_T, lt_F, eq_T, eq_F, le_T0, le_F0, lt_F0, lt_T0, eq_T0, eq_F0, eqm_F, up_s2, up_n2, Ev_some, nz_0, nz_1, if_true, if_false, reduceIte, and_true, true_and, and_false, false_and, b2_0, b2_1, Bool.true_eq_false, Bool.false_eq_true, not_true_eq_false, not_false_eq_true], by simp (disch := omega) only [rdN, wrN, rdZ, wrZ, p_put_eq, call_some, nzN, boN, nI_1, nI_add, pk_mul, lit_4, lit_16, le_T, le_F, lt_T, lt_F, eq_T, eq_F, le_T0, le_F0, lt_F0, lt_T0, eq_T0, eq_F0, eqm_F, up_s2, up_n2, Ev_some, nz_0, nz_1, if_true, if_false, reduceIte, and_true, true_and, and_false, false_and, b2_0, b2_1, Bool.true_eq_false, Bool.false_eq_true, not_true_eq_false, not_false_eq_true, hS.2.1], by simp (disch := omega) only [rdN, wrN, rdZ, wrZ, p_put_eq, call_some, nzN, boN, nI_1, nI_add, pk_mul, lit_4, lit_16, le_T, le_F, lt_T, lt_F, eq_T, eq_F, le_T0, le_F0, lt_F0, lt_T0, eq_T0, eq_F0, eqm_F, up_s2, up_n2, Ev_some, nz_0, nz_1, if_true, if_false, reduceIte, and_true, true_and, and_false, false_and, b2_0, b2_1, Bool.true_eq_false, Bool.false_eq_true, not_true_eq_false, not_false_eq_true, hS.2.2.1], fun a q hq => by rw [up_a (by omega), up_a (by omega)]; exact hS.2.2.2 a q hq⟩
      have M1 : RM (sg_up τ k 31 (nI (s.1 + 1))) k pc tn := by
        unfold RM
        rw [up_a (by omega), up_a (by omega)]
        exact hM
      have F1' : FW τ (sg_up τ k 31 (nI (s.1 + 1))) k := FW.refl.cnt (by decide)
      generalize sg_up τ k 31 (nI (s.1 + 1)) = τ1 at S1 M1 F1'
      have hz1 := F1'.sz hz
      have r1 : τ1 (k + 2) = ri := F1'.e2.1.trans hri
      have d1 : τ1 (k + 3) = dn := F1'.e2.2.trans hdn
      rcases Nat.lt_or_ge 20000 (s.1 + 1) with v | v
      · rw [if_neg (by omega)] at hend habort
        simp (disch := omega) only [rdN, wrN, rdZ, wrZ, p_put_eq, call_some, nzN, boN, nI_1, nI_add, pk_mul, lit_4, lit_16, le_T, le_F, lt_T, lt_F, eq_T, eq_F, le_T0, le_F0, lt_F0, lt_T0, eq_T0, eq_F0, eqm_F, up_s2, up_n2, Ev_some, nz_0, nz_1, if_true, if_false, reduceIte, and_true, true_and, and_false, false_and, b2_0, b2_1, Bool.true_eq_false, Bool.false_eq_true, not_true_eq_false, not_false_eq_true]
        refine ih (n + 1) F1 τ1 x (s.1 + 1, s.2) (by omega) hz1 r1 d1 M1 S1 hU (show s.2.1 ≤ s.1 + 1 by omega) (show s.1 + 1 ≤ 20001 by omega) (show m + 65 * (20001 - (s.1 + 1)) + 2 ≤ F1 by omega) (fun F' τ' x' a a2 a3 => hend F' τ' x' ?_ a2 (F1'.trans a3)) (fun τ' a a2 => habort τ' a (F1'.trans a2))
        have hmono := sr_c_le (go := goB ri dn pc tn r c d q) (fr := frB pc r c) (ft := ftB ri dn pc tn r c q) (fun p t s' a b => sr_le d _ _ s' a b) m (n + 1) (s.1 + 1, s.2) (show s.2.1 ≤ s.1 + 1 by omega) (show s.1 + 1 ≤ 20001 by omega)
        have h1 : s.1 + 1 ≤ (sr_c (goB ri dn pc tn r c d q) (frB pc r c) (ftB ri dn pc tn r c q) m (n + 1) (s.1 + 1, s.2)).1 := hmono.1
        have a' : F1 ≤ F' + m + 65 * ((sr_c (goB ri dn pc tn r c d q) (frB pc r c) (ftB ri dn pc tn r c q) m (n + 1) (s.1 + 1, s.2)).1 - (s.1 + 1)) := a
        omega
      · have ef : fit (τ1 (k + 2)) (τ1 (k + 3)) (τ1 (k + 5)) (τ1 (k + 6)) r c (n / 4) (n % 4) q = fit ri dn pc tn r c (n / 4) (n % 4) q := by
          rw [r1, d1]
          exact fit_congr hz.2.2.1 hz.2.2.2 hqr (fun o ho => M1 o (by omega))
        simp (disch := omega) only [rdN, wrN, rdZ, wrZ, p_put_eq, call_some, nzN, boN, nI_1, nI_add, pk_mul, lit_4, lit_16, le_T, le_F, lt_T, lt_F, eq_T, eq_F, le_T0, le_F0, lt_F0, lt_T0, eq_T0, eq_F0, eqm_F, up_s2, up_n2, Ev_some, nz_0, nz_1, if_true, if_false, reduceIte, and_true, true_and, and_false, false_and, b2_0, b2_1, Bool.true_eq_false, Bool.false_eq_true, not_true_eq_false, not_false_eq_true, y_doesFit hz1 (M1.bd hl hrc) hp4 ht4 hqr, ef]
        have eft : ftB ri dn pc tn r c q (n / 4) (n % 4) = fit ri dn pc tn r c (n / 4) (n % 4) q := rfl
        rw [eft] at hend habort
        cases hfit : fit ri dn pc tn r c (n / 4) (n % 4) q with
        | false =>
          rw [hfit, if_neg (by simp)] at hend habort
          simp (disch := omega) only [rdN, wrN, rdZ, wrZ, p_put_eq, call_some, nzN, boN, nI_1, nI_add, pk_mul, lit_4, lit_16, le_T, le_F, lt_T, lt_F, eq_T, eq_F, le_T0, le_F0, lt_F0, lt_T0, eq_T0, eq_F0, eqm_F, up_s2, up_n2, Ev_some, nz_0, nz_1, if_true, if_false, reduceIte, and_true, true_and, and_false, false_and, b2_0, b2_1, Bool.true_eq_false, Bool.false_eq_true, not_true_eq_false, not_false_eq_true]
          refine ih (n + 1) F1 τ1 x (s.1 + 1, s.2) (by omega) hz1 r1 d1 M1 S1 hU (show s.2.1 ≤ s.1 + 1 by omega) (show s.1 + 1 ≤ 20001 by omega) (show m + 65 * (20001 - (s.1 + 1)) + 2 ≤ F1 by omega) (fun F' τ' x' a a2 a3 => hend F' τ' x' ?_ a2 (F1'.trans a3)) (fun τ' a a2 => habort τ' a (F1'.trans a2))
          have hmono := sr_c_le (go := goB ri dn pc tn r c d q) (fr := frB pc r c) (ft := ftB ri dn pc tn r c q) (fun p t s' a b => sr_le d _ _ s' a b) m (n + 1) (s.1 + 1, s.2) (show s.2.1 ≤ s.1 + 1 by omega) (show s.1 + 1 ≤ 20001 by omega)
          have h1 : s.1 + 1 ≤ (sr_c (goB ri dn pc tn r c d q) (frB pc r c) (ftB ri dn pc tn r c q) m (n + 1) (s.1 + 1, s.2)).1 := hmono.1
          have a' : F1 ≤ F' + m + 65 * ((sr_c (goB ri dn pc tn r c d q) (frB pc r c) (ftB ri dn pc tn r c q) m (n + 1) (s.1 + 1, s.2)).1 - (s.1 + 1)) := a
          omega
        | true =>
          rw [hfit, if_pos ⟨v, rfl⟩] at hend habort
          simp (disch := omega) only [rdN, wrN, rdZ, wrZ, p_put_eq, call_some, nzN, boN, nI_1, nI_add, pk_mul, lit_4, lit_16, le_T, le_F, lt_T, lt_F, eq_T, eq_F, le_T0, le_F0, lt_F0, lt_T0, eq_T0, eq_F0, eqm_F, up_s2, up_n2, Ev_some, nz_0, nz_1, if_true, if_false, reduceIte, and_true, true_and, and_false, false_and, b2_0, b2_1, Bool.true_eq_false, Bool.false_eq_true, not_true_eq_false, not_false_eq_true]
          have hp16 : n / 4 < 16 := by omega
          -- the child's state
          have M2 : RM (sg_up (sg_up τ1 (k + 5) q (nI (n / 4))) (k + 6) q (nI (n % 4))) k (ut pc q (nI (n / 4))) (ut tn q (nI (n % 4))) := fun o ho => by
            obtain ⟨m1, m2⟩ := M1 o ho
            by_cases e : o = q
            · subst e
              simp (disch := omega) only [rdN, wrN, rdZ, wrZ, p_put_eq, call_some, nzN, boN, nI_1, nI_add, pk_mul, lit_4, lit_16, le_T, le_F, lt_T, lt_F, eq_T, eq_F, le_T0, le_F0, lt_F0, lt_T0, eq_T0, eq_F0, eqm_F, up_s2, up_n2, Ev_some, nz_0, nz_1, if_true, if_false, reduceIte, and_true, true_and, and_false, false_and, b2_0, b2_1, Bool.true_eq_false, Bool.false_eq_true, not_true_eq_false, not_false_eq_true, ut_s, or_true]
            · simp (disch := omega) only [rdN, wrN, rdZ, wrZ, p_put_eq, call_some, nzN, boN, nI_1, nI_add, pk_mul, lit_4, lit_16, le_T, le_F, lt_T, lt_F, eq_T, eq_F, le_T0, le_F0, lt_F0, lt_T0, eq_T0, eq_F0, eqm_F, up_s2, up_n2, Ev_some, nz_0, nz_1, if_true, if_false, reduceIte, and_true, true_and, and_false, false_and, b2_0, b2_1, Bool.true_eq_false, Bool.false_eq_true, not_true_eq_false, not_false_eq_true, ut_n e, m1]
              exact m2
          have S2 : RS (sg_up (sg_up τ1 (k + 5) q (nI (n / 4))) (k + 6) q (nI (n % 4))) k (r * c) (s.1 + 1, s.2) := S1.fr (by simp (disch := omega) only [rdN, wrN, rdZ, wrZ, p_put_eq, call_some, nzN, boN, nI_1, nI_add, pk_mul, lit_4, lit_16, le_T, le_F, lt_T, lt_F, eq_T, eq_F, le_T0, le_F0, lt_F0, lt_T0, eq_T0, eq_F0, eqm_F, up_s2, up_n2, Ev_some, nz_0, nz_1, if_true, if_false, reduceIte, and_true, true_and, and_false, false_and, b2_0, b2_1, Bool.true_eq_false, Bool.false_eq_true, not_true_eq_false, not_false_eq_true]) (by simp (disch := omega) only [rdN, wrN, rdZ, wrZ, p_put_eq, call_some, nzN, boN, nI_1, nI_add, pk_mul, lit_4, lit_16, le_T, le_F, lt_T, lt_F, eq_T, eq_F, le_T0, le_F0, lt_F0, lt_T0, eq_T0, eq_F0, eqm_F, up_s2, up_n2, Ev_some, nz_0, nz_1, if_true, if_false, reduceIte, and_true, true_and, and_false, false_and, b2_0, b2_1, Bool.true_eq_false, Bool.false_eq_true, not_true_eq_false, not_false_eq_true]) (by simp (disch := omega) only [rdN, wrN, rdZ, wrZ, p_put_eq, call_some, nzN, boN, nI_1, nI_add, pk_mul, lit_4, lit_16, le_T, le_F, lt_T, lt_F, eq_T, eq_F, le_T0, le_F0, lt_F0, lt_T0, eq_T0, eq_F0, eqm_F, up_s2, up_n2, Ev_some, nz_0, nz_1, if_true, if_false, reduceIte, and_true, true_and, and_false, false_and, b2_0, b2_1, Bool.true_eq_false, Bool.false_eq_true, not_true_eq_false, not_false_eq_true]) (by rw [up_a (by omega), up_a (by omega)]) (by rw [up_a (by omega), up_a (by omega)])
          have F2 : FW τ (sg_up (sg_up τ1 (k + 5) q (nI (n / 4))) (k + 6) q (nI (n % 4))) k := (F1'.up (by omega)).up (by omega)
          generalize sg_up (sg_up τ1 (k + 5) q (nI (n / 4))) (k + 6) q (nI (n % 4)) = τ2 at M2 S2 F2
          have hz2 := F2.sz hz
          have r2 : τ2 (k + 2) = ri := F2.e2.1.trans hri
          have d2 : τ2 (k + 3) = dn := F2.e2.2.trans hdn
          have U2 : Us (x ||| (1 <<< (nI (n / 4) &&& 31))) (ut pc q (nI (n / 4))) (r * c) := hU.push hqr hrc hp16 hpq
          have L2 : Lay (ut pc q (nI (n / 4))) (ut tn q (nI (n % 4))) (r * c) (q + 1) := hl.put hp4 ht4
          generalize x ||| (1 <<< (nI (n / 4) &&& 31)) = x2 at U2
          have Sl := sr_le (ri := ri) (dn := dn) (r := r) (c := c) d (ut pc q (nI (n / 4))) (ut tn q (nI (n % 4))) (s.1 + 1, s.2) (show s.2.1 < s.1 + 1 by omega) v
          have ego : goB ri dn pc tn r c d q (n / 4) (n % 4) (s.1 + 1, s.2) = sr ri dn r c d (ut pc q (nI (n / 4))) (ut tn q (nI (n % 4))) (s.1 + 1, s.2) := rfl
          rw [ego] at hend habort
          have hsl : s.1 + 1 ≤ (sr ri dn r c d (ut pc q (nI (n / 4))) (ut tn q (nI (n % 4))) (s.1 + 1, s.2)).1 := Sl.1
          generalize hs3 : sr ri dn r c d (ut pc q (nI (n / 4))) (ut tn q (nI (n % 4))) (s.1 + 1, s.2) = s3 at hend habort Sl hsl
          have hmono := sr_c_le (go := goB ri dn pc tn r c d q) (fr := frB pc r c) (ft := ftB ri dn pc tn r c q) (fun p t s' a b => sr_le d _ _ s' a b) m (n + 1) s3 Sl.2.2 Sl.2.1
          have h1 : s3.1 ≤ (sr_c (goB ri dn pc tn r c d q) (frB pc r c) (ftB ri dn pc tn r c q) m (n + 1) s3).1 := hmono.1
          have hs3b : s3.1 ≤ 20001 := Sl.2.1
          -- back from the child, on with n + 1
          have back : ∀ (F3 : Nat) (τ3 : Sg) (x3 y : Int32), F1 ≤ F3 + 65 * (s3.1 - s.1) → FW τ τ3 k → RM τ3 k (ut pc q (nI (n / 4))) (ut tn q (nI (n % 4))) → RS τ3 k (r * c) s3 → Us x3 (ut pc q (nI (n / 4))) (r * c) → Ev (f_X11_findWays_b156 k (f_X11_findWays_b48 k F3) (nI (q + 1)) y x3 τ3) Q := by
            intro F3 τ3 x3 y a1 a2 a3 a4 a5
            rw [z_pop (by omega) hp16 ht4 a3, show 4 * (n / 4) + n % 4 + 1 = n + 1 by omega]
            have F4 : FW τ (sg_up τ3 (k + 5) q (-1)) k := a2.up (by omega)
            refine ih (n + 1) F3 _ _ s3 (by omega) (F4.sz hz) (F4.e2.1.trans hri) (F4.e2.2.trans hdn) (a3.pop (by omega) hpq) (a4.fr (by simp (disch := omega) only [rdN, wrN, rdZ, wrZ, p_put_eq, call_some, nzN, boN, nI_1, nI_add, pk_mul, lit_4, lit_16, le_T, le_F, lt_T, lt_F, eq_T, eq_F, le_T0, le_F0, lt_F0, lt_T0, eq_T0, eq_F0, eqm_F, up_s2, up_n2, Ev_some, nz_0, nz_1, if_true, if_false, reduceIte, and_true, true_and, and_false, false_and, b2_0, b2_1, Bool.true_eq_false, Bool.false_eq_true, not_true_eq_false, not_false_eq_true]) (by simp (disch := omega) only [rdN, wrN, rdZ, wrZ, p_put_eq, call_some, nzN, boN, nI_1, nI_add, pk_mul, lit_4, lit_16, le_T, le_F, lt_T, lt_F, eq_T, eq_F, le_T0, le_F0, lt_F0, lt_T0, eq_T0, eq_F0, eqm_F, up_s2, up_n2, Ev_some, nz_0, nz_1, if_true, if_false, reduceIte, and_true, true_and, and_false, false_and, b2_0, b2_1, Bool.true_eq_false, Bool.false_eq_true, not_true_eq_false, not_false_eq_true]) (by simp (disch := omega) only [rdN, wrN, rdZ, wrZ, p_put_eq, call_some, nzN, boN, nI_1, nI_add, pk_mul, lit_4, lit_16, le_T, le_F, lt_T, lt_F, eq_T, eq_F, le_T0, le_F0, lt_F0, lt_T0, eq_T0, eq_F0, eqm_F, up_s2, up_n2, Ev_some, nz_0, nz_1, if_true, if_false, reduceIte, and_true, true_and, and_false, false_and, b2_0, b2_1, Bool.true_eq_false, Bool.false_eq_true, not_true_eq_false, not_false_eq_true]) (up_a (by omega)) (up_a (by omega))) (a5.pop hqr hrc hp16 hpq hfree) Sl.2.2 Sl.2.1 (by omega) (fun F' τ' x' b b2 b3 => hend F' τ' x' (by omega) b2 (F4.trans b3)) (fun τ' b b2 => habort τ' b (F4.trans b2))
          rcases hd with hd0 | ⟨d', hd', hZ⟩
          · -- the last cell
            subst hd0
            have hq1 : q + 1 = r * c := by omega
            obtain ⟨F2', rfl⟩ : ∃ F2', F1 = F2' + 1 := ⟨F1 - 1, by omega⟩
            rw [f_X11_findWays_b48, S2.1]
            have v' : s.1 + 1 ≤ 20000 := v
            simp (disch := omega) only [rdN, wrN, rdZ, wrZ, p_put_eq, call_some, nzN, boN, nI_1, nI_add, pk_mul, lit_4, lit_16, le_T, le_F, lt_T, lt_F, eq_T, eq_F, le_T0, le_F0, lt_F0, lt_T0, eq_T0, eq_F0, eqm_F, up_s2, up_n2, Ev_some, nz_0, nz_1, if_true, if_false, reduceIte, and_true, true_and, and_false, false_and, b2_0, b2_1, Bool.true_eq_false, Bool.false_eq_true, not_true_eq_false, not_false_eq_true, show (20000 : Int32) = nI 20000 from rfl, y_cells hz2, show ((s.1 + 1, s.2) : SS).1 = s.1 + 1 from rfl]
            rw [hq1]
            rw [hq1] at L2
            refine z_leaf (ri := ri) (dn := dn) hz2 M2 L2 S2 (fun υ a1 a2 a3 => ?_)
            rw [hs3] at a3
            have := back F2' υ x2 0 (by omega) (F2.trans a1) a2 a3 U2
            rw [hq1] at this
            exact this
          · -- a cell more
            subst hd'
            have hsr : s3 = sr_c (goB ri dn (ut pc q (nI (n / 4))) (ut tn q (nI (n % 4))) r c d' (q + 1)) (frB (ut pc q (nI (n / 4))) r c) (ftB ri dn (ut pc q (nI (n / 4))) (ut tn q (nI (n % 4))) r c (q + 1)) (4 * (r * c)) 0 (s.1 + 1, s.2) := by
              rw [← hs3, sr, show r * c - (d' + 1) = q + 1 by omega]
              rfl
            refine hZ (q + 1) (ut pc q (nI (n / 4))) (ut tn q (nI (n % 4))) Q (by omega) L2 (4 * (r * c)) 0 F1 τ2 x2 (s.1 + 1, s.2) (by omega) hz2 r2 d2 M2 S2 U2 (show s.2.1 ≤ s.1 + 1 by omega) (show s.1 + 1 ≤ 20001 by omega) (show 4 * (r * c) + 65 * (20001 - (s.1 + 1)) + 2 ≤ F1 by omega) ?_ ?_
            · intro F' τ' x' b b2 b3 b4 b5 b6
              rw [← hsr] at b b2 b5
              have b' : F1 ≤ F' + 4 * (r * c) + 65 * (s3.1 - (s.1 + 1)) := b
              obtain ⟨F3, rfl⟩ : ∃ F3, F' = F3 + 1 := ⟨F' - 1, by omega⟩
              have hz3 := b3.sz hz2
              rw [f_X11_findWays_b48, b5.1]
              simp (disch := omega) only [rdN, wrN, rdZ, wrZ, p_put_eq, call_some, nzN, boN, nI_1, nI_add, pk_mul, lit_4, lit_16, le_T, le_F, lt_T, lt_F, eq_T, eq_F, le_T0, le_F0, lt_F0, lt_T0, eq_T0, eq_F0, eqm_F, up_s2, up_n2, Ev_some, nz_0, nz_1, if_true, if_false, reduceIte, and_true, true_and, and_false, false_and, b2_0, b2_1, Bool.true_eq_false, Bool.false_eq_true, not_true_eq_false, not_false_eq_true, show (20000 : Int32) = nI 20000 from rfl, y_cells hz3, f_X11_findWays_b80]
              exact back F3 τ' x' _ (by omega) (F2.trans b3) b4 b5 b6
            · intro τ' b b2 b3
              rw [← hsr] at b b3
              rw [sr_stop _ _ _ b] at habort
              exact habort τ' b (F2.trans b2) b3
theorem z_all : ∀ d : Nat, ZOk k r c ri dn d
  | 0 => z_step (.inl rfl)
  | d + 1 => z_step (.inr ⟨d, rfl, z_all d⟩)
end SM2
