/-! hardest, mine -/
/-- the hardest of m numbers from k on, upon the best so far -/
def hdS (r c : Nat) : Nat → Nat → (Nat → Int32) → (Nat → Int32) → Int32 → Int32 → Int32
  | 0, _, _, _, b, _ => b
  | m + 1, k, ri, dn, b, mo => if semV (rcl k r c (r * c) 0 0 ri dn).1 (rcl k r c (r * c) 0 0 ri dn).2 (fun _ => 0) r c ≤ mo then hdS r c m (k + 1) (rcl k r c (r * c) 0 0 ri dn).1 (rcl k r c (r * c) 0 0 ri dn).2 b mo else hdS r c m (k + 1) (rcl k r c (r * c) 0 0 ri dn).1 (rcl k r c (r * c) 0 0 ri dn).2 (nI k) (semV (rcl k r c (r * c) 0 0 ri dn).1 (rcl k r c (r * c) 0 0 ri dn).2 (fun _ => 0) r c)
section HX
variable {σ : Sg} {r c : Nat} {ri dn : Nat → Int32}
theorem x_hard (hz : CutOk σ 18 r c ri dn) (hl : ∀ p, p < r * c → σ 28 p = 0) : Ev (f_X10_hardest_b27 0 fu 0 (-1) 1 σ) (fun v υ => Fr 19 19 σ υ ∧ v = hdS r c 6 1 ri dn 0 (-1)) := by
  have hrc := hz.rc
  refine lp_ev (A := Int32 × Int32 × Sg) (L := fun n j a => f_X10_hardest_b27 0 n a.1 a.2.1 (nI (j + 1)) a.2.2) (m := 6) (I := fun j a => Fr 19 19 σ a.2.2 ∧ ∃ ri' dn', CutOk a.2.2 18 r c ri' dn' ∧ hdS r c (6 - j) (j + 1) ri' dn' a.1 a.2.1 = hdS r c 6 1 ri dn 0 (-1)) (fun n a h => ?_) (fun n j a hj h ih => ?_) fu 0 (0, -1, σ) (by decide) (fu_lt (by decide)) ⟨Fr.refl, ri, dn, hz, rfl⟩
  · obtain ⟨b, mo, υ⟩ := a
    obtain ⟨hf, ri', dn', hz', hF⟩ := h
    show Ev (f_X10_hardest_b27 0 (n + 1) b mo (nI 7) υ) _
    rw [f_X10_hardest_b27]
    simp (disch := omega) only [rdN, wrN, rdZ, wrZ, p_put_eq, call_some, nzN, boN, nI_1, nI_add, pk_mul, lit_4, lit_16, le_T, le_F, lt_T, lt_F, eq_T, eq_F, le_T0, le_F0, lt_F0, lt_T0, eq_T0, eq_F0, eqm_F, up_s2, up_n2, Ev_some, nz_0, nz_1, if_true, if_false, reduceIte, and_true, true_and, and_false, false_and, b2_0, b2_1, Bool.true_eq_false, Bool.false_eq_true, not_true_eq_false, not_false_eq_true, L6]
    exact ⟨hf, hF⟩
  · obtain ⟨b, mo, υ⟩ := a
    obtain ⟨hf, ri', dn', hz', hF⟩ := h
    have hf' : Fr 19 19 σ υ := hf
    show Ev (f_X10_hardest_b27 0 (n + 1) b mo (nI (j + 1)) υ) _
    rw [f_X10_hardest_b27]
    simp (disch := omega) only [rdN, wrN, rdZ, wrZ, p_put_eq, call_some, nzN, boN, nI_1, nI_add, pk_mul, lit_4, lit_16, le_T, le_F, lt_T, lt_F, eq_T, eq_F, le_T0, le_F0, lt_F0, lt_T0, eq_T0, eq_F0, eqm_F, up_s2, up_n2, Ev_some, nz_0, nz_1, if_true, if_false, reduceIte, and_true, true_and, and_false, false_and, b2_0, b2_1, Bool.true_eq_false, Bool.false_eq_true, not_true_eq_false, not_false_eq_true, L6]
    refine Ev.call (x_reclass (m := j + 1) (by omega) hz') (fun _ φ ⟨f1, z1⟩ => ?_)
    have e1 := x_seemingPairs (k := 91) (k2 := 23) z1
    have e2 : semX (rcl (j + 1) r c (r * c) 0 0 ri' dn').1 (rcl (j + 1) r c (r * c) 0 0 ri' dn').2 (φ (23 + 5)) r c = semV (rcl (j + 1) r c (r * c) 0 0 ri' dn').1 (rcl (j + 1) r c (r * c) 0 0 ri' dn').2 (fun _ => 0) r c := sem_eq (fun p hp => ⟨by rw [f1 (23 + 5) (by decide), hf' (23 + 5) (by decide)]; exact hl p hp, .inl rfl⟩)
    rw [show f_X5_seemingPairs (0 + 91) (0 + 17 + 1) (0 + 17 + 6) φ = _ from e1, call_some, e2]
    rw [show 6 - j = (6 - (j + 1)) + 1 by omega, hdS] at hF
    unfold f_X10_hardest_b78
    by_cases hv : semV (rcl (j + 1) r c (r * c) 0 0 ri' dn').1 (rcl (j + 1) r c (r * c) 0 0 ri' dn').2 (fun _ => 0) r c ≤ mo
    · rw [if_pos hv] at hF
      rw [if_pos hv, nI_1]
      exact ih (b, mo, φ) ⟨hf'.trans f1, _, _, z1, hF⟩
    · rw [if_neg hv] at hF
      rw [if_neg hv, nI_1]
      exact ih (nI (j + 1), _, φ) ⟨hf'.trans f1, _, _, z1, hF⟩
end HX
section HM
variable {k r c : Nat}
theorem up_ut {τ : Sg} {a p : Nat} {v : Int32} : sg_up τ a p v a = ut (τ a) p v := by
  funext x
  unfold ut
  by_cases e : x = p
  · rw [if_pos e]; exact up_s2 ⟨rfl, e⟩
  · rw [if_neg e]; exact up_n2 (by omega)
theorem y_classed {τ : Sg} {v : Int32} {m n : Nat} : f_X11_classed k v (nI (1 + n % m)) τ = some (clV v m n, τ) := by
  unfold f_X11_classed clV
  by_cases h : v ≤ 0
  · rw [if_pos h, if_pos h]
  · rw [if_neg h, if_neg h]
/-- what the classing of edges leaves as it was -/
def FH (τ υ : Sg) (k : Nat) : Prop := ∀ a, a ≠ k + 2 → a ≠ k + 3 → υ a = τ a
theorem FH.sz {τ υ : Sg} (h : FH τ υ k) (hz : Sz τ k r c) : Sz υ k r c := by
  unfold Sz
  rw [h k (by omega) (by omega)]
  exact hz
theorem y_hard_in {τ0 : Sg} {m : Nat} {b mo : Int32} {R : Int32 → Int32 → Int32 → Sg → Rs} {Q : Int32 → Sg → Prop} {F : (Nat → Int32) × (Nat → Int32)} (hz : Sz τ0 k r c) (hm : 1 ≤ m ∧ m < 100) (hk : ∀ υ, FH τ0 υ k → υ (k + 2) = F.1 → υ (k + 3) = F.2 → Ev (p_call (f_X11_seemsOf k υ) (fun v3 s4 => if mo < v3 then (f_X11_hardest_b154 k R (nI m) v3 (nI m) s4) else (f_X11_hardest_b154 k R b mo (nI m) s4))) Q) : ∀ (f p n : Nat) (τ : Sg), FH τ0 τ k → p ≤ r * c → n ≤ 2 * p → r * c - p < f → rcl m r c (r * c - p) p n (τ (k + 2)) (τ (k + 3)) = F → Ev (f_X11_hardest_b45 k R f b mo (nI m) (nI n) (nI p) τ) Q
  | 0, _, _, _, _, _, _, h, _ => absurd h (Nat.not_lt_zero _)
  | f + 1, p, n, τ, hf, hp, hn, h, hF => by
    have hrc := hz.rc
    have z1 := hf.sz hz
    have h1 := hz.2.2.1
    have h2 := hz.2.2.2
    rw [f_X11_hardest_b45]
    rcases Nat.lt_or_ge p (r * c) with q | q
    · simp (disch := omega) only [rdN, wrN, rdZ, wrZ, p_put_eq, call_some, nzN, boN, nI_1, nI_add, pk_mul, lit_4, lit_16, le_T, le_F, lt_T, lt_F, eq_T, eq_F, le_T0, le_F0, lt_F0, lt_T0, eq_T0, eq_F0, eqm_F, up_s2, up_n2, Ev_some, nz_0, nz_1, if_true, if_false, reduceIte, and_true, true_and, and_false, false_and, b2_0, b2_1, Bool.true_eq_false, Bool.false_eq_true, not_true_eq_false, not_false_eq_true, y_cells z1, L1, y_beside z1 q (show 1 < 4 by decide)]
      have b1 := isSome_nat (o := bs r c p 1)
      have b2 := isSome_nat (o := bs r c p 2)
      rw [show r * c - p = (r * c - (p + 1)) + 1 by omega, rcl] at hF
      -- the second half
      have half : ∀ (n' : Nat) (υ : Sg), FH τ0 υ k → n' ≤ 2 * p + 1 → υ (k + 3) = τ (k + 3) → rcl m r c (r * c - (p + 1)) (p + 1) (n' + (bs r c p 2).isSome.toNat) (υ (k + 2)) (if (bs r c p 2).isSome = true then ut (υ (k + 3)) p (clV (υ (k + 3) p) m n') else υ (k + 3)) = F → Ev (f_X11_hardest_b91 k R (f_X11_hardest_b45 k R f) b mo (nI m) (nI n') (nI p) υ) Q := by
        intro n' υ a1 a2 a3 a4
        have z2 := a1.sz hz
        unfold f_X11_hardest_b91 f_X11_hardest_b128
        simp (disch := omega) only [rdN, wrN, rdZ, wrZ, p_put_eq, call_some, nzN, boN, nI_1, nI_add, pk_mul, lit_4, lit_16, le_T, le_F, lt_T, lt_F, eq_T, eq_F, le_T0, le_F0, lt_F0, lt_T0, eq_T0, eq_F0, eqm_F, up_s2, up_n2, Ev_some, nz_0, nz_1, if_true, if_false, reduceIte, and_true, true_and, and_false, false_and, b2_0, b2_1, Bool.true_eq_false, Bool.false_eq_true, not_true_eq_false, not_false_eq_true, L2, y_beside z2 q (show 2 < 4 by decide)]
        cases hb : bs r c p 2 with
        | none =>
          rw [hb] at a4
          simp (disch := omega) only [rdN, wrN, rdZ, wrZ, p_put_eq, call_some, nzN, boN, nI_1, nI_add, pk_mul, lit_4, lit_16, le_T, le_F, lt_T, lt_F, eq_T, eq_F, le_T0, le_F0, lt_F0, lt_T0, eq_T0, eq_F0, eqm_F, up_s2, up_n2, Ev_some, nz_0, nz_1, if_true, if_false, reduceIte, and_true, true_and, and_false, false_and, b2_0, b2_1, Bool.true_eq_false, Bool.false_eq_true, not_true_eq_false, not_false_eq_true, bsI, show ((-1 : Int32) < 0) = True from eq_true (by decide)]
          exact y_hard_in hz hm hk f (p + 1) n' υ a1 (by omega) (by omega) (by omega) a4
        | some o =>
          have ho := bs_lt h1 h2 q (by decide) hb
          rw [hb] at a4
          have ec : 1 + (nI n' - nI n' / nI m * nI m) = nI (1 + n' % m) := ecl hm (by omega)
          simp (disch := omega) only [rdN, wrN, rdZ, wrZ, p_put_eq, call_some, nzN, boN, nI_1, nI_add, pk_mul, lit_4, lit_16, le_T, le_F, lt_T, lt_F, eq_T, eq_F, le_T0, le_F0, lt_F0, lt_T0, eq_T0, eq_F0, eqm_F, up_s2, up_n2, Ev_some, nz_0, nz_1, if_true, if_false, reduceIte, and_true, true_and, and_false, false_and, b2_0, b2_1, Bool.true_eq_false, Bool.false_eq_true, not_true_eq_false, not_false_eq_true, bsI, ec, y_classed]
          refine y_hard_in hz hm hk f (p + 1) (n' + 1) _ (fun a x y => by rw [up_a y]; exact a1 a x y) (by omega) (by omega) (by omega) ?_
          rw [up_ut, up_a (by omega)]
          exact a4
      cases hb : bs r c p 1 with
      | none =>
        rw [hb] at hF
        simp (disch := omega) only [rdN, wrN, rdZ, wrZ, p_put_eq, call_some, nzN, boN, nI_1, nI_add, pk_mul, lit_4, lit_16, le_T, le_F, lt_T, lt_F, eq_T, eq_F, le_T0, le_F0, lt_F0, lt_T0, eq_T0, eq_F0, eqm_F, up_s2, up_n2, Ev_some, nz_0, nz_1, if_true, if_false, reduceIte, and_true, true_and, and_false, false_and, b2_0, b2_1, Bool.true_eq_false, Bool.false_eq_true, not_true_eq_false, not_false_eq_true, bsI, show ((-1 : Int32) < 0) = True from eq_true (by decide)]
        exact half n τ hf (by omega) rfl hF
      | some o =>
        have ho := bs_lt h1 h2 q (by decide) hb
        rw [hb] at hF
        have ec : nI 1 + (nI n - nI n / nI m * nI m) = nI (1 + n % m) := ecl hm (by omega)
        simp (disch := omega) only [rdN, wrN, rdZ, wrZ, p_put_eq, call_some, nzN, boN, nI_1, nI_add, pk_mul, lit_4, lit_16, le_T, le_F, lt_T, lt_F, eq_T, eq_F, le_T0, le_F0, lt_F0, lt_T0, eq_T0, eq_F0, eqm_F, up_s2, up_n2, Ev_some, nz_0, nz_1, if_true, if_false, reduceIte, and_true, true_and, and_false, false_and, b2_0, b2_1, Bool.true_eq_false, Bool.false_eq_true, not_true_eq_false, not_false_eq_true, bsI, ec, y_classed]
        refine half (n + 1) _ (fun a x y => by rw [up_a x]; exact hf a x y) (by omega) (up_a (by omega)) ?_
        rw [up_ut, up_a (by omega)]
        exact hF
    · simp (disch := omega) only [rdN, wrN, rdZ, wrZ, p_put_eq, call_some, nzN, boN, nI_1, nI_add, pk_mul, lit_4, lit_16, le_T, le_F, lt_T, lt_F, eq_T, eq_F, le_T0, le_F0, lt_F0, lt_T0, eq_T0, eq_F0, eqm_F, up_s2, up_n2, Ev_some, nz_0, nz_1, if_true, if_false, reduceIte, and_true, true_and, and_false, false_and, b2_0, b2_1, Bool.true_eq_false, Bool.false_eq_true, not_true_eq_false, not_false_eq_true, y_cells z1]
      rw [show r * c - p = 0 by omega] at hF
      exact hk τ hf (congrArg Prod.fst hF) (congrArg Prod.snd hF)
theorem y_hard {τ1 : Sg} {ri dn : Nat → Int32} {Q : Int32 → Sg → Prop} (hz : Sz τ1 k r c) (hl : ∀ p, p < r * c → τ1 (k + 8) p = 0) (hri : τ1 (k + 2) = ri) (hdn : τ1 (k + 3) = dn) (hk : ∀ υ, FH τ1 υ k → Ev (p_call (f_X11_passesAll k 1 0 υ) (fun _ s2 => some (hdS r c 6 1 ri dn 0 (-1), s2))) Q) : Ev (f_X11_hardest_b33 k fu 0 (-1) 1 τ1) Q := by
  have hrc := hz.rc
  refine lp_ev (A := Int32 × Int32 × Sg) (L := fun n j a => f_X11_hardest_b33 k n a.1 a.2.1 (nI (j + 1)) a.2.2) (m := 6) (I := fun j a => FH τ1 a.2.2 k ∧ hdS r c (6 - j) (j + 1) (a.2.2 (k + 2)) (a.2.2 (k + 3)) a.1 a.2.1 = hdS r c 6 1 ri dn 0 (-1)) (fun n a h => ?_) (fun n j a hj h ih => ?_) fu 0 (0, -1, τ1) (by decide) (fu_lt (by decide)) ⟨fun _ _ _ => rfl, by show hdS r c 6 1 (τ1 (k + 2)) (τ1 (k + 3)) 0 (-1) = _; rw [hri, hdn]⟩
  · obtain ⟨b, mo, υ⟩ := a
    obtain ⟨hf, hF⟩ := h
    show Ev (f_X11_hardest_b33 k (n + 1) b mo (nI 7) υ) _
    rw [f_X11_hardest_b33]
    simp (disch := omega) only [rdN, wrN, rdZ, wrZ, p_put_eq, call_some, nzN, boN, nI_1, nI_add, pk_mul, lit_4, lit_16, le_T, le_F, lt_T, lt_F, eq_T, eq_F, le_T0, le_F0, lt_F0, lt_T0, eq_T0, eq_F0, eqm_F, up_s2, up_n2, Ev_some, nz_0, nz_1, if_true, if_false, reduceIte, and_true, true_and, and_false, false_and, b2_0, b2_1, Bool.true_eq_false, Bool.false_eq_true, not_true_eq_false, not_false_eq_true, L7]
    have hF' : b = hdS r c 6 1 ri dn 0 (-1) := hF
    rw [hF']
    exact hk υ hf
  · obtain ⟨b, mo, υ⟩ := a
    obtain ⟨hf, hF⟩ := h
    show Ev (f_X11_hardest_b33 k (n + 1) b mo (nI (j + 1)) υ) _
    have hf' : FH τ1 υ k := hf
    have hF' : hdS r c (6 - j) (j + 1) (υ (k + 2)) (υ (k + 3)) b mo = hdS r c 6 1 ri dn 0 (-1) := hF
    rw [f_X11_hardest_b33]
    simp (disch := omega) only [rdN, wrN, rdZ, wrZ, p_put_eq, call_some, nzN, boN, nI_1, nI_add, pk_mul, lit_4, lit_16, le_T, le_F, lt_T, lt_F, eq_T, eq_F, le_T0, le_F0, lt_F0, lt_T0, eq_T0, eq_F0, eqm_F, up_s2, up_n2, Ev_some, nz_0, nz_1, if_true, if_false, reduceIte, and_true, true_and, and_false, false_and, b2_0, b2_1, Bool.true_eq_false, Bool.false_eq_true, not_true_eq_false, not_false_eq_true, L7]
    refine y_hard_in (τ0 := υ) (F := rcl (j + 1) r c (r * c) 0 0 (υ (k + 2)) (υ (k + 3))) (hf'.sz hz) (by omega) (fun φ f1 r1 d1 => ?_) fu 0 0 υ (fun _ _ _ => rfl) (Nat.zero_le _) (Nat.zero_le _) (fu_lt (by omega)) rfl
    have zφ := f1.sz (hf'.sz hz)
    rw [y_seemsOf zφ, call_some, r1, d1]
    have el : semV (rcl (j + 1) r c (r * c) 0 0 (υ (k + 2)) (υ (k + 3))).1 (rcl (j + 1) r c (r * c) 0 0 (υ (k + 2)) (υ (k + 3))).2 (φ (k + 8)) r c = semV (rcl (j + 1) r c (r * c) 0 0 (υ (k + 2)) (υ (k + 3))).1 (rcl (j + 1) r c (r * c) 0 0 (υ (k + 2)) (υ (k + 3))).2 (fun _ => 0) r c := by
      unfold semV
      refine sm_congr _ _ (fun p _ hp => sm_congr _ _ (fun q _ hq => ?_))
      rw [f1 (k + 8) (by omega) (by omega), hf' (k + 8) (by omega) (by omega), hl p (by omega), hl q (by omega)]
    rw [el]
    rw [show 6 - j = (6 - (j + 1)) + 1 by omega, hdS] at hF'
    have fr : FH τ1 φ k := fun a x y => (f1 a x y).trans (hf' a x y)
    unfold f_X11_hardest_b154
    by_cases hv : semV (rcl (j + 1) r c (r * c) 0 0 (υ (k + 2)) (υ (k + 3))).1 (rcl (j + 1) r c (r * c) 0 0 (υ (k + 2)) (υ (k + 3))).2 (fun _ => 0) r c ≤ mo
    · rw [if_pos hv, ← r1, ← d1] at hF'
      rw [if_neg (Int32.not_lt.mpr hv), nI_1]
      exact ih (b, mo, φ) ⟨fr, hF'⟩
    · rw [if_neg hv] at hF'
      rw [if_pos (Int32.not_le.mp hv), nI_1]
      refine ih (nI (j + 1), _, φ) ⟨fr, ?_⟩
      show hdS r c (6 - (j + 1)) (j + 1 + 1) (φ (k + 2)) (φ (k + 3)) (nI (j + 1)) _ = _
      rw [r1, d1]
      exact hF'
end HM
section RJ
variable {i : Nat} {σ τ : Sg}
theorem r_hardest (h : Inv i σ τ) : Rl i (f_X10_hardest 0 σ) (f_X11_hardest 103 τ) := by
  obtain ⟨⟨r, c, g1, g2, g3⟩, -⟩ := id h
  have hrc := g1.rc
  -- the class
  obtain ⟨_, υ, e1, f1, f2⟩ := x_copyG' (k := 17) (k1 := 1) (by decide) g2 g1
  obtain ⟨_, φ, e2, c1, -, -, c4⟩ := x_clearB (σ := υ) (k := 23)
  have hz : CutOk φ 18 r c (τ 105) (τ 106) := f2.1.fr (fun j hj => c1 _ (by omega))
  obtain ⟨v, ψ, e3, f3, e4⟩ := x_hard hz (fun p hp => (c4 p (by omega)).2.2)
  have X : Xs σ ψ := ((Xs.of f1 (by decide)).trans (Xs.of c1 (by decide))).trans (Xs.of f3 (by decide))
  have eX : f_X10_hardest 0 σ = some (hdS r c 6 1 (τ 105) (τ 106) 0 (-1), ψ) := by
    unfold f_X10_hardest
    rw [show f_X3_copyFrom (0 + 17) (0 + 1) σ = _ from e1, call_some, show f_X0_clear (0 + 17 + 6) υ = _ from e2, call_some, e3, e4]
  -- the reference
  have eM : Ev (f_X11_hardest 103 τ) (fun w υ => w = hdS r c 6 1 (τ 105) (τ 106) 0 (-1) ∧ Ms τ υ) := by
    unfold f_X11_hardest
    refine Ev.call (show Ev (f_X11_passesAll 103 (nI 1) 1 τ) _ from y_keepAll (by decide)) (fun _ τ1 k1 => ?_)
    have c2 : τ1 (103 + 2) = τ 105 := by rw [k1.1 _ (by decide) (by decide), up_a (by decide), up_a (by decide)]
    have c3 : τ1 (103 + 3) = τ 106 := by rw [k1.1 _ (by decide) (by decide), up_a (by decide), up_a (by decide)]
    have z1 : Sz τ1 103 r c := by
      unfold Sz
      rw [k1.2.1 11 (by decide), k1.2.1 12 (by decide), up_n2 (by decide), up_n2 (by decide), up_n2 (by decide), up_n2 (by decide)]
      exact g1.sz
    refine lp_ev (L := fun n j υ => f_X11_hardest_b8 103 n (nI j) υ) (m := 16) (I := fun n υ => (∀ a, a ≠ 111 → υ a = τ1 a) ∧ ∀ j, j < n → υ 111 j = 0) (fun n υ h => ?_) (fun n j υ hj h ih => ?_) fu 0 τ1 (by decide) (fu_lt (by decide)) ⟨fun _ _ => rfl, fun j hj => absurd hj (Nat.not_lt_zero _)⟩
    · show Ev (f_X11_hardest_b8 103 (n + 1) (nI 16) υ) _
      rw [f_X11_hardest_b8]
      simp (disch := omega) only [rdN, wrN, rdZ, wrZ, p_put_eq, call_some, nzN, boN, nI_1, nI_add, pk_mul, lit_4, lit_16, le_T, le_F, lt_T, lt_F, eq_T, eq_F, le_T0, le_F0, lt_F0, lt_T0, eq_T0, eq_F0, eqm_F, up_s2, up_n2, Ev_some, nz_0, nz_1, if_true, if_false, reduceIte, and_true, true_and, and_false, false_and, b2_0, b2_1, Bool.true_eq_false, Bool.false_eq_true, not_true_eq_false, not_false_eq_true]
      obtain ⟨a, b⟩ := h
      have z2 : Sz υ 103 r c := by unfold Sz; rw [a 103 (by decide)]; exact z1
      refine y_hard (ri := τ 105) (dn := τ 106) z2 (fun p hp => b p (by omega)) ((a _ (by decide)).trans c2) ((a _ (by decide)).trans c3) (fun φ hφ => ?_)
      refine Ev.call (show Ev (f_X11_passesAll 103 (nI 1) 0 φ) _ from y_backAll (by decide)) (fun _ ψ k2 => ?_)
      rw [Ev_some]
      refine ⟨rfl, FRs.ms (E := fun _ => false) (D := fun _ => false) (kept_back k1 (fun x y z w => ?_) ?_ (fun b' x y z w => ?_) k2) (by decide) (by decide)⟩
      · rw [hφ x (by omega) (by omega), a x (by omega)]
      · rw [hφ _ (by decide) (by decide), a _ (by decide)]
      · rw [hφ _ (by decide) (by decide), a _ (by decide)]
    · show Ev (f_X11_hardest_b8 103 (n + 1) (nI j) υ) _
      rw [f_X11_hardest_b8]
      simp (disch := omega) only [rdN, wrN, rdZ, wrZ, p_put_eq, call_some, nzN, boN, nI_1, nI_add, pk_mul, lit_4, lit_16, le_T, le_F, lt_T, lt_F, eq_T, eq_F, le_T0, le_F0, lt_F0, lt_T0, eq_T0, eq_F0, eqm_F, up_s2, up_n2, Ev_some, nz_0, nz_1, if_true, if_false, reduceIte, and_true, true_and, and_false, false_and, b2_0, b2_1, Bool.true_eq_false, Bool.false_eq_true, not_true_eq_false, not_false_eq_true]
      refine ih _ ⟨fun a ha => by rw [up_a (by omega)]; exact h.1 a ha, fun l hl => ?_⟩
      by_cases e : l = j
      · simp (disch := omega) only [rdN, wrN, rdZ, wrZ, p_put_eq, call_some, nzN, boN, nI_1, nI_add, pk_mul, lit_4, lit_16, le_T, le_F, lt_T, lt_F, eq_T, eq_F, le_T0, le_F0, lt_F0, lt_T0, eq_T0, eq_F0, eqm_F, up_s2, up_n2, Ev_some, nz_0, nz_1, if_true, if_false, reduceIte, and_true, true_and, and_false, false_and, b2_0, b2_1, Bool.true_eq_false, Bool.false_eq_true, not_true_eq_false, not_false_eq_true, e]
      · simp (disch := omega) only [rdN, wrN, rdZ, wrZ, p_put_eq, call_some, nzN, boN, nI_1, nI_add, pk_mul, lit_4, lit_16, le_T, le_F, lt_T, lt_F, eq_T, eq_F, le_T0, le_F0, lt_F0, lt_T0, eq_T0, eq_F0, eqm_F, up_s2, up_n2, Ev_some, nz_0, nz_1, if_true, if_false, reduceIte, and_true, true_and, and_false, false_and, b2_0, b2_1, Bool.true_eq_false, Bool.false_eq_true, not_true_eq_false, not_false_eq_true, h.2 l (by omega)]
  obtain ⟨w, υ', e5, e6, e7⟩ := eM
  rw [eX, e5, e6]
  exact Rl.of rfl rfl (h.sc X e7)
end RJ
