/-! calls that change the board: lift, pocket, find, tryIt; seconds; count -/
theorem gM_at {τ : Sg} {j : Nat} (hj : j < 10) : gM τ j = τ (105 + j) := by
  rcases (show j = 0 ∨ j = 1 ∨ j = 2 ∨ j = 3 ∨ j = 4 ∨ j = 5 ∨ j = 6 ∨ j = 7 ∨ j = 8 ∨ j = 9 by omega) with rfl | rfl | rfl | rfl | rfl | rfl | rfl | rfl | rfl | rfl <;> rfl
theorem gM_up {τ : Sg} {j q a : Nat} {v : Int32} (hj : j < 10) (ha : a = 105 + j) : EqA (gM (sg_up τ a q v)) (sg_up (gM τ) j q v) := by
  subst ha
  have key : ∀ j', j' < 10 → ∀ i, gM (sg_up τ (105 + j) q v) j' i = sg_up (gM τ) j q v j' i := fun j' hj' i => by
    rw [gM_at hj']
    by_cases e : j' = j ∧ i = q
    · rw [up_s2 (by omega), up_s2 e]
    · rw [up_n2 (by omega), up_n2 e, gM_at hj']
  refine ⟨fun j' h i _ => key j' (by omega) i, fun j' _ h i _ => key j' h i, fun i _ => ?_⟩
  rw [up_n2 (show ¬ (10 = j ∧ i = q) by omega)]
  show sg_up τ (105 + j) q v 103 (11 + i) = τ 103 (11 + i)
  rw [up_n2 (by omega)]
theorem EqA.up {G G' : Sg} {j q : Nat} {v : Int32} (h : EqA G' G) : EqA (sg_up G' j q v) (sg_up G j q v) := by
  have key : ∀ a b, G' a b = G a b → sg_up G' j q v a b = sg_up G j q v a b := fun a b e => by
    by_cases x : a = j ∧ b = q
    · rw [up_s2 x, up_s2 x]
    · rw [up_n2 x, up_n2 x, e]
  exact ⟨fun a b d e => key _ _ (h.1 a b d e), fun a b d e f => key _ _ (h.2.1 a b d e f), fun a b => key _ _ (h.2.2 a b)⟩
section UP
variable {G : Sg} {r c B : Nat}
theorem GOk.lift {q : Nat} (h : GOk G r c B) : GOk (sg_up G 3 q (-1)) r c B := by
  obtain ⟨a, b, d, f, g, n⟩ := h
  have e : ∀ j, j ≠ 3 → sg_up G 3 q (-1) j = G j := fun j hj => up_a hj
  refine ⟨by rw [e 10 (by decide)]; exact a, by rw [e 0 (by decide), e 1 (by decide)]; exact b, fun x hx => ?_, fun x y hx hy hxy => ?_, by rw [e 6 (by decide)]; exact g, by rw [e 10 (by decide), e 7 (by decide), e 8 (by decide), e 9 (by decide)]; exact n⟩
  · by_cases w : x = q
    · exact .inl (up_s2 ⟨rfl, w⟩)
    · rw [up_n2 (by omega), e 4 (by decide)]; exact d x hx
  · by_cases w : x = q
    · exact .inl (up_s2 ⟨rfl, w⟩)
    · by_cases w2 : y = q
      · exact .inl (hxy.trans (up_s2 ⟨rfl, w2⟩))
      · rw [up_n2 (by omega), up_n2 (by omega)] at hxy
        rw [up_n2 (by omega)]
        exact f x y hx hy hxy
theorem GOk.lostU {p : Nat} {v : Int32} (h : GOk G r c B) (hp : p < r * c) (hv : v = 0 ∨ v = 1) : GOk (sg_up G 6 p v) r c B := by
  obtain ⟨a, b, d, f, g, n⟩ := h
  have e : ∀ j, j ≠ 6 → sg_up G 6 p v j = G j := fun j hj => up_a hj
  refine ⟨by rw [e 10 (by decide)]; exact a, by rw [e 0 (by decide), e 1 (by decide)]; exact b, by rw [e 3 (by decide), e 4 (by decide)]; exact d, by rw [e 3 (by decide)]; exact f, fun x hx => ?_, by rw [e 10 (by decide), e 7 (by decide), e 8 (by decide), e 9 (by decide)]; exact n⟩
  by_cases w : x = p
  · rw [up_s2 ⟨rfl, w⟩]
    rcases hv with hv | hv
    · exact .inl hv
    · exact .inr ⟨hv, by omega⟩
  · rw [up_n2 (by omega)]; exact g x hx
theorem GOk.put {q p t : Nat} {x : Int32} (h : GOk G r c B) (hq : q < r * c) (hp : p < r * c) (ht : t < 4) (hf : laidB (G 3) (r * c) (nI p) = false) : GOk (sg_up (sg_up (sg_up G 3 q (nI p)) 4 q (nI t)) 5 q x) r c B := by
  have hrc := h.rc
  obtain ⟨a, b, d, f, g, n⟩ := h
  have e : ∀ j, j ≠ 3 → j ≠ 4 → j ≠ 5 → sg_up (sg_up (sg_up G 3 q (nI p)) 4 q (nI t)) 5 q x j = G j := fun j h1 h2 h3 => by rw [up_a h3, up_a h2, up_a h1]
  have e3 : ∀ y, sg_up (sg_up (sg_up G 3 q (nI p)) 4 q (nI t)) 5 q x 3 y = if y = q then nI p else G 3 y := fun y => by
    by_cases w : y = q
    · rw [if_pos w]; simp (disch := omega) only [rdN, wrN, rdZ, wrZ, p_put_eq, call_some, nzN, boN, nI_1, nI_add, pk_mul, lit_4, lit_16, le_T, le_F, lt_T, lt_F, eq_T, eq_F, le_T0, le_F0, lt_F0, lt_T0, eq_T0, eq_F0, eqm_F, up_s2, up_n2, Ev_some, nz_0, nz_1, if_true, if_false, reduceIte, and_true, true_and, and_false, false_and, b2_0, b2_1, Bool.true_eq_false, Bool.false_eq_true, not_true_eq_false, not_false_eq_true, w]
    · rw [if_neg w]; simp (disch := omega) only [rdN, wrN, rdZ, wrZ, p_put_eq, call_some, nzN, boN, nI_1, nI_add, pk_mul, lit_4, lit_16, le_T, le_F, lt_T, lt_F, eq_T, eq_F, le_T0, le_F0, lt_F0, lt_T0, eq_T0, eq_F0, eqm_F, up_s2, up_n2, Ev_some, nz_0, nz_1, if_true, if_false, reduceIte, and_true, true_and, and_false, false_and, b2_0, b2_1, Bool.true_eq_false, Bool.false_eq_true, not_true_eq_false, not_false_eq_true]
  have nl : ∀ y, y < 16 → ¬ G 3 y = nI p := fun y hy u => by
    rcases d y hy with w | ⟨w, -⟩
    · exact nI_nm1 (by omega) (u.symm.trans w)
    · rw [laidB_iff.mpr ⟨y, w, u⟩] at hf; cases hf
  refine ⟨by rw [e 10 (by decide) (by decide) (by decide)]; exact a, by rw [e 0 (by decide) (by decide) (by decide), e 1 (by decide) (by decide) (by decide)]; exact b, fun y hy => ?_, fun y z hy hz hyz => ?_, by rw [e 6 (by decide) (by decide) (by decide)]; exact g, by rw [e 10 (by decide) (by decide) (by decide), e 7 (by decide) (by decide) (by decide), e 8 (by decide) (by decide) (by decide), e 9 (by decide) (by decide) (by decide)]; exact n⟩
  · rw [e3]
    by_cases w : y = q
    · rw [if_pos w]
      exact .inr ⟨by omega, p, t, hp, ht, rfl, by simp (disch := omega) only [rdN, wrN, rdZ, wrZ, p_put_eq, call_some, nzN, boN, nI_1, nI_add, pk_mul, lit_4, lit_16, le_T, le_F, lt_T, lt_F, eq_T, eq_F, le_T0, le_F0, lt_F0, lt_T0, eq_T0, eq_F0, eqm_F, up_s2, up_n2, Ev_some, nz_0, nz_1, if_true, if_false, reduceIte, and_true, true_and, and_false, false_and, b2_0, b2_1, Bool.true_eq_false, Bool.false_eq_true, not_true_eq_false, not_false_eq_true, w]⟩
    · rw [if_neg w, show sg_up (sg_up (sg_up G 3 q (nI p)) 4 q (nI t)) 5 q x 4 y = G 4 y by simp (disch := omega) only [rdN, wrN, rdZ, wrZ, p_put_eq, call_some, nzN, boN, nI_1, nI_add, pk_mul, lit_4, lit_16, le_T, le_F, lt_T, lt_F, eq_T, eq_F, le_T0, le_F0, lt_F0, lt_T0, eq_T0, eq_F0, eqm_F, up_s2, up_n2, Ev_some, nz_0, nz_1, if_true, if_false, reduceIte, and_true, true_and, and_false, false_and, b2_0, b2_1, Bool.true_eq_false, Bool.false_eq_true, not_true_eq_false, not_false_eq_true]]
      exact d y hy
  · rw [e3, e3] at hyz
    rw [e3]
    by_cases w : y = q
    · rw [if_pos w] at hyz ⊢
      by_cases w2 : z = q
      · exact .inr (w.trans w2.symm)
      · rw [if_neg w2] at hyz
        exact absurd hyz.symm (nl z hz)
    · rw [if_neg w] at hyz ⊢
      by_cases w2 : z = q
      · rw [if_pos w2] at hyz
        exact absurd hyz (nl y hy)
      · rw [if_neg w2] at hyz
        exact f y z hy hz hyz
theorem GOk.spend {w s x n : Nat} (h : GOk G r c B) (hn : G 10 2 = nI n) (hw : w < n) (h6 : n ≤ 6) (hs : G 9 w = nI s) (hx : s + x ≤ B + 60) : GOk (sg_up G 9 w (nI (s + x))) r c (B + 60) := by
  obtain ⟨a, b, d, f, g, n', m1, m2, m3⟩ := h
  have en : n' = n := (nI_eq (by omega) (by omega)).mp (m2.symm.trans hn)
  subst en
  have e : ∀ j, j ≠ 9 → sg_up G 9 w (nI (s + x)) j = G j := fun j hj => up_a hj
  refine ⟨by rw [e 10 (by decide)]; exact a, by rw [e 0 (by decide), e 1 (by decide)]; exact b, by rw [e 3 (by decide), e 4 (by decide)]; exact d, by rw [e 3 (by decide)]; exact f, by rw [e 6 (by decide)]; exact g, n', m1, by rw [e 10 (by decide)]; exact m2, fun y hy => ?_⟩
  obtain ⟨u1, u2, u3⟩ := m3 y hy
  rw [e 7 (by decide), e 8 (by decide)]
  refine ⟨u1, u2, ?_⟩
  by_cases z : y = w
  · exact ⟨s + x, hx, up_s2 ⟨rfl, z⟩⟩
  · obtain ⟨s', s1, s2⟩ := u3
    exact ⟨s', by omega, by rw [up_n2 (by omega)]; exact s2⟩
variable {σ : Sg} {k : Nat}
theorem GameOk.lift {q p : Nat} (h : GameOk σ k G r c) (g : GOk G r c B) (hq : q < r * c) (hp : p < r * c) (hl : G 3 q = nI p) : GameOk (sg_up (sg_up σ (k + 10) p 0) (k + 7) q (-1)) k (sg_up G 3 q (-1)) r c := by
  have hrc := g.rc
  obtain ⟨h1, h2, h3, h4, h5, h6⟩ := h
  have e : ∀ j, j ≠ 3 → sg_up G 3 q (-1) j = G j := fun j hj => up_a hj
  have fr : ∀ j, j ≠ 7 → j ≠ 10 → sg_up (sg_up σ (k + 10) p 0) (k + 7) q (-1) (k + j) = σ (k + j) := fun j a b => by rw [up_a (by omega), up_a (by omega)]
  refine ⟨?_, ?_, ?_, fun y hy => ?_, ?_, ?_⟩
  · rw [e 0 (by decide), e 1 (by decide)]
    exact h1.fr (fun j hj => by rw [show k + 1 + j = k + (1 + j) by omega]; exact fr _ (by omega) (by omega))
  · rw [fr 4 (by decide) (by decide)]; exact h2
  · rw [fr 5 (by decide) (by decide), e 2 (by decide)]; exact h3
  · obtain ⟨a1, a2, a3, a4, a5⟩ := h4 y hy
    rw [fr 8 (by decide) (by decide), fr 9 (by decide) (by decide), fr 11 (by decide) (by decide), e 4 (by decide), e 5 (by decide), e 6 (by decide)]
    refine ⟨?_, a2, a3, ?_, a5⟩
    · by_cases w : y = q
      · simp (disch := omega) only [rdN, wrN, rdZ, wrZ, p_put_eq, call_some, nzN, boN, nI_1, nI_add, pk_mul, lit_4, lit_16, le_T, le_F, lt_T, lt_F, eq_T, eq_F, le_T0, le_F0, lt_F0, lt_T0, eq_T0, eq_F0, eqm_F, up_s2, up_n2, Ev_some, nz_0, nz_1, if_true, if_false, reduceIte, and_true, true_and, and_false, false_and, b2_0, b2_1, Bool.true_eq_false, Bool.false_eq_true, not_true_eq_false, not_false_eq_true, w]
      · simp (disch := omega) only [rdN, wrN, rdZ, wrZ, p_put_eq, call_some, nzN, boN, nI_1, nI_add, pk_mul, lit_4, lit_16, le_T, le_F, lt_T, lt_F, eq_T, eq_F, le_T0, le_F0, lt_F0, lt_T0, eq_T0, eq_F0, eqm_F, up_s2, up_n2, Ev_some, nz_0, nz_1, if_true, if_false, reduceIte, and_true, true_and, and_false, false_and, b2_0, b2_1, Bool.true_eq_false, Bool.false_eq_true, not_true_eq_false, not_false_eq_true, a1]
    · have el : laidB (sg_up G 3 q (-1) 3) (r * c) (nI y) = (laidB (G 3) (r * c) (nI y) && !decide (y = p)) := by
        have iff : laidB (sg_up G 3 q (-1) 3) (r * c) (nI y) = true ↔ (laidB (G 3) (r * c) (nI y) = true ∧ ¬ y = p) := by
          rw [laidB_iff, laidB_iff]
          constructor
          · rintro ⟨o, ho, w⟩
            by_cases z : o = q
            · rw [up_s2 ⟨rfl, z⟩] at w
              exact absurd w.symm (nI_nm1 (by omega))
            · rw [up_n2 (by omega)] at w
              refine ⟨⟨o, ho, w⟩, fun u => ?_⟩
              subst u
              rcases g.2.2.2.1 o q (by omega) (by omega) (w.trans hl.symm) with u | u
              · exact nI_nm1 (by omega) (w.symm.trans u)
              · exact z u
          · rintro ⟨⟨o, ho, w⟩, u⟩
            refine ⟨o, ho, ?_⟩
            rw [up_n2 (fun z => u ?_)]
            · exact w
            · rw [z.2, hl] at w
              exact ((nI_eq (by omega) (by omega)).mp w).symm
        cases hx : laidB (sg_up G 3 q (-1) 3) (r * c) (nI y) with
        | true =>
          obtain ⟨u, v⟩ := iff.mp hx
          rw [u, decide_eq_false v]; rfl
        | false =>
          cases hy2 : laidB (G 3) (r * c) (nI y) with
          | false => rfl
          | true =>
            by_cases z : y = p
            · rw [decide_eq_true z]; rfl
            · rw [iff.mpr ⟨hy2, z⟩] at hx; cases hx
      rw [el]
      by_cases w : y = p
      · simp (disch := omega) only [rdN, wrN, rdZ, wrZ, p_put_eq, call_some, nzN, boN, nI_1, nI_add, pk_mul, lit_4, lit_16, le_T, le_F, lt_T, lt_F, eq_T, eq_F, le_T0, le_F0, lt_F0, lt_T0, eq_T0, eq_F0, eqm_F, up_s2, up_n2, Ev_some, nz_0, nz_1, if_true, if_false, reduceIte, and_true, true_and, and_false, false_and, b2_0, b2_1, Bool.true_eq_false, Bool.false_eq_true, not_true_eq_false, not_false_eq_true, w]
        simp [b2]
      · simp (disch := omega) only [rdN, wrN, rdZ, wrZ, p_put_eq, call_some, nzN, boN, nI_1, nI_add, pk_mul, lit_4, lit_16, le_T, le_F, lt_T, lt_F, eq_T, eq_F, le_T0, le_F0, lt_F0, lt_T0, eq_T0, eq_F0, eqm_F, up_s2, up_n2, Ev_some, nz_0, nz_1, if_true, if_false, reduceIte, and_true, true_and, and_false, false_and, b2_0, b2_1, Bool.true_eq_false, Bool.false_eq_true, not_true_eq_false, not_false_eq_true, a4]
        simp [w]
  · rw [fr 12 (by decide) (by decide), e 10 (by decide)]; exact h5
  · rw [fr 13 (by decide) (by decide), fr 14 (by decide) (by decide), fr 15 (by decide) (by decide), e 7 (by decide), e 8 (by decide), e 9 (by decide)]; exact h6
theorem GameOk.lostU {p : Nat} {v : Int32} (h : GameOk σ k G r c) : GameOk (sg_up σ (k + 11) p v) k (sg_up G 6 p v) r c := by
  obtain ⟨h1, h2, h3, h4, h5, h6⟩ := h
  have e : ∀ j, j ≠ 6 → sg_up G 6 p v j = G j := fun j hj => up_a hj
  have fr : ∀ j, j ≠ 11 → sg_up σ (k + 11) p v (k + j) = σ (k + j) := fun j a => up_a (by omega)
  refine ⟨?_, ?_, ?_, fun y hy => ?_, ?_, ?_⟩
  · rw [e 0 (by decide), e 1 (by decide)]
    exact h1.fr (fun j hj => by rw [show k + 1 + j = k + (1 + j) by omega]; exact fr _ (by omega))
  · rw [fr 4 (by decide)]; exact h2
  · rw [fr 5 (by decide), e 2 (by decide)]; exact h3
  · obtain ⟨a1, a2, a3, a4, a5⟩ := h4 y hy
    rw [fr 7 (by decide), fr 8 (by decide), fr 9 (by decide), fr 10 (by decide), e 3 (by decide), e 4 (by decide), e 5 (by decide)]
    refine ⟨a1, a2, a3, a4, ?_⟩
    by_cases w : y = p
    · simp (disch := omega) only [rdN, wrN, rdZ, wrZ, p_put_eq, call_some, nzN, boN, nI_1, nI_add, pk_mul, lit_4, lit_16, le_T, le_F, lt_T, lt_F, eq_T, eq_F, le_T0, le_F0, lt_F0, lt_T0, eq_T0, eq_F0, eqm_F, up_s2, up_n2, Ev_some, nz_0, nz_1, if_true, if_false, reduceIte, and_true, true_and, and_false, false_and, b2_0, b2_1, Bool.true_eq_false, Bool.false_eq_true, not_true_eq_false, not_false_eq_true, w]
    · simp (disch := omega) only [rdN, wrN, rdZ, wrZ, p_put_eq, call_some, nzN, boN, nI_1, nI_add, pk_mul, lit_4, lit_16, le_T, le_F, lt_T, lt_F, eq_T, eq_F, le_T0, le_F0, lt_F0, lt_T0, eq_T0, eq_F0, eqm_F, up_s2, up_n2, Ev_some, nz_0, nz_1, if_true, if_false, reduceIte, and_true, true_and, and_false, false_and, b2_0, b2_1, Bool.true_eq_false, Bool.false_eq_true, not_true_eq_false, not_false_eq_true, a5]
  · rw [fr 12 (by decide), e 10 (by decide)]; exact h5
  · rw [fr 13 (by decide), fr 14 (by decide), fr 15 (by decide), e 7 (by decide), e 8 (by decide), e 9 (by decide)]; exact h6
theorem GameOk.put {q p t : Nat} {x : Int32} (h : GameOk σ k G r c) (g : GOk G r c B) (hq : q < r * c) (hp : p < r * c) (hl : G 3 q = -1) : GameOk (sg_up (sg_up (sg_up (sg_up σ (k + 7) q (nI p)) (k + 8) q (nI t)) (k + 9) q x) (k + 10) p 1) k (sg_up (sg_up (sg_up G 3 q (nI p)) 4 q (nI t)) 5 q x) r c := by
  have hrc := g.rc
  obtain ⟨h1, h2, h3, h4, h5, h6⟩ := h
  have e : ∀ j, j ≠ 3 → j ≠ 4 → j ≠ 5 → sg_up (sg_up (sg_up G 3 q (nI p)) 4 q (nI t)) 5 q x j = G j := fun j a b d => by rw [up_a d, up_a b, up_a a]
  have fr : ∀ j, j < 7 ∨ 10 < j → sg_up (sg_up (sg_up (sg_up σ (k + 7) q (nI p)) (k + 8) q (nI t)) (k + 9) q x) (k + 10) p 1 (k + j) = σ (k + j) := fun j a => by rw [up_a (by omega), up_a (by omega), up_a (by omega), up_a (by omega)]
  refine ⟨?_, ?_, ?_, fun y hy => ?_, ?_, ?_⟩
  · rw [e 0 (by decide) (by decide) (by decide), e 1 (by decide) (by decide) (by decide)]
    exact h1.fr (fun j hj => by rw [show k + 1 + j = k + (1 + j) by omega]; exact fr _ (by omega))
  · rw [fr 4 (by decide)]; exact h2
  · rw [fr 5 (by decide), e 2 (by decide) (by decide) (by decide)]; exact h3
  · obtain ⟨a1, a2, a3, a4, a5⟩ := h4 y hy
    rw [fr 11 (by decide), e 6 (by decide) (by decide) (by decide)]
    have e3 : sg_up (sg_up (sg_up G 3 q (nI p)) 4 q (nI t)) 5 q x 3 = ut (G 3) q (nI p) := by
      funext z
      unfold ut
      by_cases w : z = q
      · rw [if_pos w]; simp (disch := omega) only [rdN, wrN, rdZ, wrZ, p_put_eq, call_some, nzN, boN, nI_1, nI_add, pk_mul, lit_4, lit_16, le_T, le_F, lt_T, lt_F, eq_T, eq_F, le_T0, le_F0, lt_F0, lt_T0, eq_T0, eq_F0, eqm_F, up_s2, up_n2, Ev_some, nz_0, nz_1, if_true, if_false, reduceIte, and_true, true_and, and_false, false_and, b2_0, b2_1, Bool.true_eq_false, Bool.false_eq_true, not_true_eq_false, not_false_eq_true, w]
      · rw [if_neg w]; simp (disch := omega) only [rdN, wrN, rdZ, wrZ, p_put_eq, call_some, nzN, boN, nI_1, nI_add, pk_mul, lit_4, lit_16, le_T, le_F, lt_T, lt_F, eq_T, eq_F, le_T0, le_F0, lt_F0, lt_T0, eq_T0, eq_F0, eqm_F, up_s2, up_n2, Ev_some, nz_0, nz_1, if_true, if_false, reduceIte, and_true, true_and, and_false, false_and, b2_0, b2_1, Bool.true_eq_false, Bool.false_eq_true, not_true_eq_false, not_false_eq_true]
    rw [e3, laid_put hq hrc (by omega) hy hl]
    by_cases w : y = q
    · subst w
      refine ⟨by simp (disch := omega) only [rdN, wrN, rdZ, wrZ, p_put_eq, call_some, nzN, boN, nI_1, nI_add, pk_mul, lit_4, lit_16, le_T, le_F, lt_T, lt_F, eq_T, eq_F, le_T0, le_F0, lt_F0, lt_T0, eq_T0, eq_F0, eqm_F, up_s2, up_n2, Ev_some, nz_0, nz_1, if_true, if_false, reduceIte, and_true, true_and, and_false, false_and, b2_0, b2_1, Bool.true_eq_false, Bool.false_eq_true, not_true_eq_false, not_false_eq_true, ut_s], by simp (disch := omega) only [rdN, wrN, rdZ, wrZ, p_put_eq, call_some, nzN, boN, nI_1, nI_add, pk_mul, lit_4, lit_16, le_T, le_F, lt_T, lt_F, eq_T, eq_F, le_T0, le_F0, lt_F0, lt_T0, eq_T0, eq_F0, eqm_F, up_s2, up_n2, Ev_some, nz_0, nz_1, if_true, if_false, reduceIte, and_true, true_and, and_false, false_and, b2_0, b2_1, Bool.true_eq_false, Bool.false_eq_true, not_true_eq_false, not_false_eq_true], by simp (disch := omega) only [rdN, wrN, rdZ, wrZ, p_put_eq, call_some, nzN, boN, nI_1, nI_add, pk_mul, lit_4, lit_16, le_T, le_F, lt_T, lt_F, eq_T, eq_F, le_T0, le_F0, lt_F0, lt_T0, eq_T0, eq_F0, eqm_F, up_s2, up_n2, Ev_some, nz_0, nz_1, if_true, if_false, reduceIte, and_true, true_and, and_false, false_and, b2_0, b2_1, Bool.true_eq_false, Bool.false_eq_true, not_true_eq_false, not_false_eq_true], ?_, a5⟩
      by_cases z : y = p
      · simp (disch := omega) only [rdN, wrN, rdZ, wrZ, p_put_eq, call_some, nzN, boN, nI_1, nI_add, pk_mul, lit_4, lit_16, le_T, le_F, lt_T, lt_F, eq_T, eq_F, le_T0, le_F0, lt_F0, lt_T0, eq_T0, eq_F0, eqm_F, up_s2, up_n2, Ev_some, nz_0, nz_1, if_true, if_false, reduceIte, and_true, true_and, and_false, false_and, b2_0, b2_1, Bool.true_eq_false, Bool.false_eq_true, not_true_eq_false, not_false_eq_true, z]
        simp [b2]
      · simp (disch := omega) only [rdN, wrN, rdZ, wrZ, p_put_eq, call_some, nzN, boN, nI_1, nI_add, pk_mul, lit_4, lit_16, le_T, le_F, lt_T, lt_F, eq_T, eq_F, le_T0, le_F0, lt_F0, lt_T0, eq_T0, eq_F0, eqm_F, up_s2, up_n2, Ev_some, nz_0, nz_1, if_true, if_false, reduceIte, and_true, true_and, and_false, false_and, b2_0, b2_1, Bool.true_eq_false, Bool.false_eq_true, not_true_eq_false, not_false_eq_true, a4]
        simp [z]
    · refine ⟨by simp (disch := omega) only [rdN, wrN, rdZ, wrZ, p_put_eq, call_some, nzN, boN, nI_1, nI_add, pk_mul, lit_4, lit_16, le_T, le_F, lt_T, lt_F, eq_T, eq_F, le_T0, le_F0, lt_F0, lt_T0, eq_T0, eq_F0, eqm_F, up_s2, up_n2, Ev_some, nz_0, nz_1, if_true, if_false, reduceIte, and_true, true_and, and_false, false_and, b2_0, b2_1, Bool.true_eq_false, Bool.false_eq_true, not_true_eq_false, not_false_eq_true, ut_n w, a1], by simp (disch := omega) only [rdN, wrN, rdZ, wrZ, p_put_eq, call_some, nzN, boN, nI_1, nI_add, pk_mul, lit_4, lit_16, le_T, le_F, lt_T, lt_F, eq_T, eq_F, le_T0, le_F0, lt_F0, lt_T0, eq_T0, eq_F0, eqm_F, up_s2, up_n2, Ev_some, nz_0, nz_1, if_true, if_false, reduceIte, and_true, true_and, and_false, false_and, b2_0, b2_1, Bool.true_eq_false, Bool.false_eq_true, not_true_eq_false, not_false_eq_true, a2], by simp (disch := omega) only [rdN, wrN, rdZ, wrZ, p_put_eq, call_some, nzN, boN, nI_1, nI_add, pk_mul, lit_4, lit_16, le_T, le_F, lt_T, lt_F, eq_T, eq_F, le_T0, le_F0, lt_F0, lt_T0, eq_T0, eq_F0, eqm_F, up_s2, up_n2, Ev_some, nz_0, nz_1, if_true, if_false, reduceIte, and_true, true_and, and_false, false_and, b2_0, b2_1, Bool.true_eq_false, Bool.false_eq_true, not_true_eq_false, not_false_eq_true, a3], ?_, a5⟩
      by_cases z : y = p
      · simp (disch := omega) only [rdN, wrN, rdZ, wrZ, p_put_eq, call_some, nzN, boN, nI_1, nI_add, pk_mul, lit_4, lit_16, le_T, le_F, lt_T, lt_F, eq_T, eq_F, le_T0, le_F0, lt_F0, lt_T0, eq_T0, eq_F0, eqm_F, up_s2, up_n2, Ev_some, nz_0, nz_1, if_true, if_false, reduceIte, and_true, true_and, and_false, false_and, b2_0, b2_1, Bool.true_eq_false, Bool.false_eq_true, not_true_eq_false, not_false_eq_true, z]
        simp [b2]
      · simp (disch := omega) only [rdN, wrN, rdZ, wrZ, p_put_eq, call_some, nzN, boN, nI_1, nI_add, pk_mul, lit_4, lit_16, le_T, le_F, lt_T, lt_F, eq_T, eq_F, le_T0, le_F0, lt_F0, lt_T0, eq_T0, eq_F0, eqm_F, up_s2, up_n2, Ev_some, nz_0, nz_1, if_true, if_false, reduceIte, and_true, true_and, and_false, false_and, b2_0, b2_1, Bool.true_eq_false, Bool.false_eq_true, not_true_eq_false, not_false_eq_true, a4]
        simp [z]
  · rw [fr 12 (by decide), e 10 (by decide) (by decide) (by decide)]; exact h5
  · rw [fr 13 (by decide), fr 14 (by decide), fr 15 (by decide), e 7 (by decide) (by decide) (by decide), e 8 (by decide) (by decide) (by decide), e 9 (by decide) (by decide) (by decide)]; exact h6
theorem GameOk.spend {w : Nat} {v : Int32} (h : GameOk σ k G r c) : GameOk (sg_up σ (k + 15) w v) k (sg_up G 9 w v) r c := by
  obtain ⟨h1, h2, h3, h4, h5, h6⟩ := h
  have e : ∀ j, j ≠ 9 → sg_up G 9 w v j = G j := fun j hj => up_a hj
  have fr : ∀ j, j ≠ 15 → sg_up σ (k + 15) w v (k + j) = σ (k + j) := fun j a => up_a (by omega)
  refine ⟨?_, ?_, ?_, ?_, ?_, fun y hy => ?_⟩
  · rw [e 0 (by decide), e 1 (by decide)]
    exact h1.fr (fun j hj => by rw [show k + 1 + j = k + (1 + j) by omega]; exact fr _ (by omega))
  · rw [fr 4 (by decide)]; exact h2
  · rw [fr 5 (by decide), e 2 (by decide)]; exact h3
  · rw [fr 7 (by decide), fr 8 (by decide), fr 9 (by decide), fr 10 (by decide), fr 11 (by decide), e 3 (by decide), e 4 (by decide), e 5 (by decide), e 6 (by decide)]; exact h4
  · rw [fr 12 (by decide), e 10 (by decide)]; exact h5
  · obtain ⟨a1, a2, a3⟩ := h6 y hy
    rw [fr 13 (by decide), fr 14 (by decide), e 7 (by decide), e 8 (by decide)]
    refine ⟨a1, a2, ?_⟩
    by_cases z : y = w
    · simp (disch := omega) only [rdN, wrN, rdZ, wrZ, p_put_eq, call_some, nzN, boN, nI_1, nI_add, pk_mul, lit_4, lit_16, le_T, le_F, lt_T, lt_F, eq_T, eq_F, le_T0, le_F0, lt_F0, lt_T0, eq_T0, eq_F0, eqm_F, up_s2, up_n2, Ev_some, nz_0, nz_1, if_true, if_false, reduceIte, and_true, true_and, and_false, false_and, b2_0, b2_1, Bool.true_eq_false, Bool.false_eq_true, not_true_eq_false, not_false_eq_true, z]
    · simp (disch := omega) only [rdN, wrN, rdZ, wrZ, p_put_eq, call_some, nzN, boN, nI_1, nI_add, pk_mul, lit_4, lit_16, le_T, le_F, lt_T, lt_F, eq_T, eq_F, le_T0, le_F0, lt_F0, lt_T0, eq_T0, eq_F0, eqm_F, up_s2, up_n2, Ev_some, nz_0, nz_1, if_true, if_false, reduceIte, and_true, true_and, and_false, false_and, b2_0, b2_1, Bool.true_eq_false, Bool.false_eq_true, not_true_eq_false, not_false_eq_true, a3]
end UP
section RG
variable {i : Nat} {σ τ : Sg}
theorem known_fr {r c : Nat} {σ' τ' : Sg} (g3 : σ 59 2 = 0 ∨ (σ 59 2 = 1 ∧ Known σ 59 r c (gM τ 0) (gM τ 1))) (e : σ' 59 = σ 59 ∧ σ' 67 = σ 67 ∧ σ' 68 = σ 68) (e2 : τ' 105 = τ 105 ∧ τ' 106 = τ 106) : σ' 59 2 = 0 ∨ (σ' 59 2 = 1 ∧ Known σ' 59 r c (gM τ' 0) (gM τ' 1)) := by
  have a : gM τ' 0 = gM τ 0 := e2.1
  have b : gM τ' 1 = gM τ 1 := e2.2
  unfold Known CS
  rw [a, b, e.1, show σ' (59 + 8) = σ (59 + 8) from e.2.1, show σ' (59 + 9) = σ (59 + 9) from e.2.2]
  exact g3
/-- the other parts, if only the game was changed -/
theorem Inv.game {i' : Nat} {σ' τ' : Sg} (h : Inv i σ τ) (hi : i ≤ i') (hg : IG i' σ' τ') (e1 : ∀ a, 17 ≤ a → σ' a = σ a) (e2 : σ' 0 11 = σ 0 11) (e3 : ∀ a, 104 = a ∨ 115 ≤ a → τ' a = τ a) (e4 : ∀ b, 15 ≤ b → τ' 103 b = τ 103 b) : Inv i' σ' τ' := by
  obtain ⟨-, h2, h3, h4, h5⟩ := Inv.iff.mp (h.mono hi)
  exact Inv.iff.mpr ⟨hg, h2.fr (fun a _ _ => e1 a (by omega)) e2 (e4 25 (by decide)) (fun b _ => by rw [e3 121 (by decide)]), h3.fr (by rw [e1 55 (by decide)]) (e1 56 (by decide)) (e4 21 (by decide)) (e3 115 (by decide)), h4.fr (by rw [e1 57 (by decide)]) (e1 58 (by decide)) (e4 39 (by decide)) (e3 126 (by decide)), h5.fr (e1 102 (by decide)) (e3 104 (by decide))⟩
theorem r_lift {x : Int32} (h : Inv i σ τ) : Rl i (f_X10_lift 0 x σ) (f_X11_lift 103 x τ) := by
  obtain ⟨⟨r, c, g1, g2, g3⟩, -⟩ := id h
  have hrc := g1.rc
  unfold f_X10_lift f_X11_lift
  simp (disch := omega) only [rdN, wrN, rdZ, wrZ, p_put_eq, call_some, nzN, boN, nI_1, nI_add, pk_mul, lit_4, lit_16, le_T, le_F, lt_T, lt_F, eq_T, eq_F, le_T0, le_F0, lt_F0, lt_T0, eq_T0, eq_F0, eqm_F, up_s2, up_n2, Ev_some, nz_0, nz_1, if_true, if_false, reduceIte, and_true, true_and, and_false, false_and, b2_0, b2_1, Bool.true_eq_false, Bool.false_eq_true, not_true_eq_false, not_false_eq_true, w_isCell g2, v_isCell g1]
  cases hx : inB (r * c) x with
  | false => simp (disch := omega) only [rdN, wrN, rdZ, wrZ, p_put_eq, call_some, nzN, boN, nI_1, nI_add, pk_mul, lit_4, lit_16, le_T, le_F, lt_T, lt_F, eq_T, eq_F, le_T0, le_F0, lt_F0, lt_T0, eq_T0, eq_F0, eqm_F, up_s2, up_n2, Ev_some, nz_0, nz_1, if_true, if_false, reduceIte, and_true, true_and, and_false, false_and, b2_0, b2_1, Bool.true_eq_false, Bool.false_eq_true, not_true_eq_false, not_false_eq_true]; exact r_no h (by decide) n1
  | true =>
    obtain ⟨q, hq, rfl⟩ := inB_of (by omega) hx
    have hq' : q < 16 := by omega
    have a1 : σ 8 q = τ 108 q := (g2.2.2.2.1 q hq').1
    simp (disch := omega) only [rdN, wrN, rdZ, wrZ, p_put_eq, call_some, nzN, boN, nI_1, nI_add, pk_mul, lit_4, lit_16, le_T, le_F, lt_T, lt_F, eq_T, eq_F, le_T0, le_F0, lt_F0, lt_T0, eq_T0, eq_F0, eqm_F, up_s2, up_n2, Ev_some, nz_0, nz_1, if_true, if_false, reduceIte, and_true, true_and, and_false, false_and, b2_0, b2_1, Bool.true_eq_false, Bool.false_eq_true, not_true_eq_false, not_false_eq_true, x_isFilled hq']
    rw [show fl (σ 8) q = flR (τ 108) q from flx g1 g2 hq']
    rcases g1.2.2.1 q hq' with w | ⟨-, p, t, hp, ht, w, w2⟩
    · have w' : τ 108 q = -1 := w
      rw [if_pos (by unfold flR; rw [w']; decide), if_neg (by rw [w']; decide)]
      exact r_no h (by decide) n3
    · have w' : τ 108 q = nI p := w
      have ef : flR (τ 108) q = true := by unfold flR; rw [w', decide_eq_false (nI_pos (by omega))]; rfl
      have et := x_takeUp (σ := σ) (k := 7) hq' (show p < 16 by omega) (a1.trans w')
      rw [if_neg (by rw [ef]; decide), et, w', if_pos (nI_pos' (by omega)), call_some]
      refine Rl.of rfl rfl (h.game (Nat.le_refl _) ⟨r, c, g1.lift.cg (gM_up (j := 3) (by decide) rfl), (GameOk.lift (k := 1) g2 g1 hq hp w).cg (gM_up (j := 3) (by decide) rfl), known_fr g3 ⟨by rw [up_a (by decide), up_a (by decide)], by rw [up_a (by decide), up_a (by decide)], by rw [up_a (by decide), up_a (by decide)]⟩ ⟨up_a (by decide), up_a (by decide)⟩⟩ (fun a _ => by rw [up_a (by omega), up_a (by omega)]) (by simp (disch := omega) only [rdN, wrN, rdZ, wrZ, p_put_eq, call_some, nzN, boN, nI_1, nI_add, pk_mul, lit_4, lit_16, le_T, le_F, lt_T, lt_F, eq_T, eq_F, le_T0, le_F0, lt_F0, lt_T0, eq_T0, eq_F0, eqm_F, up_s2, up_n2, Ev_some, nz_0, nz_1, if_true, if_false, reduceIte, and_true, true_and, and_false, false_and, b2_0, b2_1, Bool.true_eq_false, Bool.false_eq_true, not_true_eq_false, not_false_eq_true]) (fun a _ => up_a (by omega)) (fun b _ => up_n2 (by omega)))
/-- how many are lost, both ways -/
theorem lostM {r c B : Nat} {G : Sg} {lo : Nat → Int32} (g1 : GOk G r c B) (h : ∀ p, p < 16 → lo p = G 6 p) : sm (fun q => b2 (!decide (lo q = 0))) 0 16 = sm (G 6) 0 (r * c) := by
  have hrc := g1.rc
  rw [sm_16 hrc (fun q a b => by
    have : lo q = 0 := by
      rw [h q b]
      rcases g1.2.2.2.2.1 q b with e | ⟨-, e⟩
      · exact e
      · omega
    simp [this, b2])]
  refine sm_congr _ _ (fun q _ hq => ?_)
  rw [h q (by omega)]
  rcases lost01 g1 (show q < 16 by omega) with e | e <;> rw [e] <;> decide
theorem r_pocket {x : Int32} (h : Inv i σ τ) : Rl i (f_X10_pocket 0 x σ) (f_X11_pocket 103 x τ) := by
  obtain ⟨⟨r, c, g1, g2, g3⟩, -⟩ := id h
  have hrc := g1.rc
  unfold f_X10_pocket f_X11_pocket f_X11_pocket_b32
  simp (disch := omega) only [rdN, wrN, rdZ, wrZ, p_put_eq, call_some, nzN, boN, nI_1, nI_add, pk_mul, lit_4, lit_16, le_T, le_F, lt_T, lt_F, eq_T, eq_F, le_T0, le_F0, lt_F0, lt_T0, eq_T0, eq_F0, eqm_F, up_s2, up_n2, Ev_some, nz_0, nz_1, if_true, if_false, reduceIte, and_true, true_and, and_false, false_and, b2_0, b2_1, Bool.true_eq_false, Bool.false_eq_true, not_true_eq_false, not_false_eq_true, w_isCell g2, v_isCell g1]
  cases hx : inB (r * c) x with
  | false => simp (disch := omega) only [rdN, wrN, rdZ, wrZ, p_put_eq, call_some, nzN, boN, nI_1, nI_add, pk_mul, lit_4, lit_16, le_T, le_F, lt_T, lt_F, eq_T, eq_F, le_T0, le_F0, lt_F0, lt_T0, eq_T0, eq_F0, eqm_F, up_s2, up_n2, Ev_some, nz_0, nz_1, if_true, if_false, reduceIte, and_true, true_and, and_false, false_and, b2_0, b2_1, Bool.true_eq_false, Bool.false_eq_true, not_true_eq_false, not_false_eq_true]; exact r_no h (by decide) n1
  | true =>
    obtain ⟨p, hp, rfl⟩ := inB_of (by omega) hx
    have hp' : p < 16 := by omega
    simp (disch := omega) only [rdN, wrN, rdZ, wrZ, p_put_eq, call_some, nzN, boN, nI_1, nI_add, pk_mul, lit_4, lit_16, le_T, le_F, lt_T, lt_F, eq_T, eq_F, le_T0, le_F0, lt_F0, lt_T0, eq_T0, eq_F0, eqm_F, up_s2, up_n2, Ev_some, nz_0, nz_1, if_true, if_false, reduceIte, and_true, true_and, and_false, false_and, b2_0, b2_1, Bool.true_eq_false, Bool.false_eq_true, not_true_eq_false, not_false_eq_true, x_isAway hp', y_isLaid g1.sz]
    rw [show aw (σ 11) (σ 12) p = _ from aw_eq g1 g2 hp']
    have l01 : τ 111 p = 0 ∨ τ 111 p = 1 := lost01 g1 hp'
    show Rl i (if (laidB (τ 108) (r * c) (nI p) || decide (τ 111 p = 1)) = false then _ else _) (if laidB (τ 108) (r * c) (nI p) = false then (if τ 111 p = 1 then _ else _) else _)
    cases hl : laidB (τ 108) (r * c) (nI p) with
    | true => simp (disch := omega) only [rdN, wrN, rdZ, wrZ, p_put_eq, call_some, nzN, boN, nI_1, nI_add, pk_mul, lit_4, lit_16, le_T, le_F, lt_T, lt_F, eq_T, eq_F, le_T0, le_F0, lt_F0, lt_T0, eq_T0, eq_F0, eqm_F, up_s2, up_n2, Ev_some, nz_0, nz_1, if_true, if_false, reduceIte, and_true, true_and, and_false, false_and, b2_0, b2_1, Bool.true_eq_false, Bool.false_eq_true, not_true_eq_false, not_false_eq_true, Bool.true_or]; exact r_no h (by decide) n3
    | false =>
      rcases l01 with w | w
      · rw [w, if_pos (by decide), if_pos rfl, if_neg (by decide)]
        have G1 := (g1.lostU (v := 1) hp (.inr rfl)).cg (gM_up (τ := τ) (j := 6) (a := 111) (by decide) rfl)
        have G2 := (GameOk.lostU (k := 1) (p := p) (v := 1) g2).cg (gM_up (τ := τ) (j := 6) (a := 111) (by decide) rfl)
        have e1 := lostM G1 (fun q hq => (G2.2.2.2.1 q hq).2.2.2.2)
        rw [x_howManyLost, call_some, y_lostMany G1.sz, call_some]
        refine Rl.of rfl (by rw [show sm (sg_up τ (103 + 8) p 1 (103 + 8)) 0 (r * c) = _ from e1.symm]) (h.game (Nat.le_refl _) ⟨r, c, G1, G2, known_fr g3 ⟨up_a (by decide), up_a (by decide), up_a (by decide)⟩ ⟨up_a (by decide), up_a (by decide)⟩⟩ (fun a _ => up_a (by omega)) (up_n2 (by omega)) (fun a _ => up_a (by omega)) (fun b _ => up_n2 (by omega)))
      · rw [w, if_neg (by decide), if_pos rfl, if_pos rfl]
        exact r_no h (by decide) n3
theorem r_find {x : Int32} (h : Inv i σ τ) : Rl i (f_X10_find 0 x σ) (f_X11_find 103 x τ) := by
  obtain ⟨⟨r, c, g1, g2, g3⟩, -⟩ := id h
  have hrc := g1.rc
  unfold f_X10_find f_X11_find
  simp (disch := omega) only [rdN, wrN, rdZ, wrZ, p_put_eq, call_some, nzN, boN, nI_1, nI_add, pk_mul, lit_4, lit_16, le_T, le_F, lt_T, lt_F, eq_T, eq_F, le_T0, le_F0, lt_F0, lt_T0, eq_T0, eq_F0, eqm_F, up_s2, up_n2, Ev_some, nz_0, nz_1, if_true, if_false, reduceIte, and_true, true_and, and_false, false_and, b2_0, b2_1, Bool.true_eq_false, Bool.false_eq_true, not_true_eq_false, not_false_eq_true, w_isCell g2, v_isCell g1]
  cases hx : inB (r * c) x with
  | false => simp (disch := omega) only [rdN, wrN, rdZ, wrZ, p_put_eq, call_some, nzN, boN, nI_1, nI_add, pk_mul, lit_4, lit_16, le_T, le_F, lt_T, lt_F, eq_T, eq_F, le_T0, le_F0, lt_F0, lt_T0, eq_T0, eq_F0, eqm_F, up_s2, up_n2, Ev_some, nz_0, nz_1, if_true, if_false, reduceIte, and_true, true_and, and_false, false_and, b2_0, b2_1, Bool.true_eq_false, Bool.false_eq_true, not_true_eq_false, not_false_eq_true]; exact r_no h (by decide) n1
  | true =>
    obtain ⟨p, hp, rfl⟩ := inB_of (by omega) hx
    have hp' : p < 16 := by omega
    have a5 : σ 12 p = τ 111 p := (g2.2.2.2.1 p hp').2.2.2.2
    simp (disch := omega) only [rdN, wrN, rdZ, wrZ, p_put_eq, call_some, nzN, boN, nI_1, nI_add, pk_mul, lit_4, lit_16, le_T, le_F, lt_T, lt_F, eq_T, eq_F, le_T0, le_F0, lt_F0, lt_T0, eq_T0, eq_F0, eqm_F, up_s2, up_n2, Ev_some, nz_0, nz_1, if_true, if_false, reduceIte, and_true, true_and, and_false, false_and, b2_0, b2_1, Bool.true_eq_false, Bool.false_eq_true, not_true_eq_false, not_false_eq_true, a5]
    have l01 : τ 111 p = 0 ∨ τ 111 p = 1 := lost01 g1 hp'
    rcases l01 with w | w
    · rw [if_pos w, if_pos w]; exact r_no h (by decide) n3
    · have hne : ¬ τ 111 p = 0 := by rw [w]; decide
      rw [if_neg hne, if_neg hne]
      have G1 := (g1.lostU (v := 0) hp (.inl rfl)).cg (gM_up (τ := τ) (j := 6) (a := 111) (by decide) rfl)
      have G2 := (GameOk.lostU (k := 1) (p := p) (v := 0) g2).cg (gM_up (τ := τ) (j := 6) (a := 111) (by decide) rfl)
      have e1 := lostM G1 (fun q hq => (G2.2.2.2.1 q hq).2.2.2.2)
      rw [x_howManyLost, call_some, y_lostMany G1.sz, call_some]
      refine Rl.of rfl (by rw [show sm (sg_up τ (103 + 8) p 0 (103 + 8)) 0 (r * c) = _ from e1.symm]) (h.game (Nat.le_refl _) ⟨r, c, G1, G2, known_fr g3 ⟨up_a (by decide), up_a (by decide), up_a (by decide)⟩ ⟨up_a (by decide), up_a (by decide)⟩⟩ (fun a _ => up_a (by omega)) (up_n2 (by omega)) (fun a _ => up_a (by omega)) (fun b _ => up_n2 (by omega)))
end RG
