/-! the work: one cell filled, on both sides in step -/
/-- both come to the same number, and P holds of what they leave -/
def R2 (f g : Rs) (P : Sg → Sg → Prop) : Prop := ∃ (v : Int32) (υ φ : Sg), f = some (v, υ) ∧ g = some (v, φ) ∧ P υ φ
/-- the class's game in mind (υ, begun as υ0) and the reference's (φ, kept from τ1) -/
def WR (υ0 τ1 υ φ : Sg) (r c u : Nat) : Prop := (CutOk υ 74 r c (τ1 105) (τ1 106) ∧ (∀ p, p < r * c → υ 78 p = τ1 107 p) ∧ (∀ w, w < 6 → υ 86 w = τ1 112 w ∧ υ 87 w = τ1 113 w) ∧ υ 72 3 = nI u) ∧ BdP (φ 108) (φ 109) (r * c) ∧ (∀ q, q < 16 → υ 80 q = φ 108 q ∧ υ 81 q = φ 109 q ∧ υ 83 q = b2 (laidB (φ 108) (r * c) (nI q)) ∧ υ 84 q = τ1 111 q) ∧ ((∀ a, a < 72 ∨ 90 < a → υ a = υ0 a) ∧ υ 89 = υ0 89 ∧ υ 72 4 = υ0 72 4) ∧ (∀ a, a ≠ 103 → a ≠ 108 → a ≠ 109 → a ≠ 125 → φ a = τ1 a) ∧ ∀ b, b ≠ 36 → φ 103 b = τ1 103 b
/-- the marks, after n candidates -/
def MK (υ φ : Sg) (ri dn : Nat → Int32) (r c u n : Nat) : Prop := ∃ mk mf, υ 72 5 = nI mk ∧ φ 103 36 = nI mf ∧ mk ≤ n ∧ mf ≤ n ∧ (u = 4 → mk = mf ∧ ∀ j, j < mk → ∃ p t, p < r * c ∧ t < 4 ∧ υ 90 j = codV 19 ri dn r c p t ∧ φ 125 j = codV 20 ri dn r c p t)
theorem MK.le {υ φ : Sg} {ri dn : Nat → Int32} {r c u n n' : Nat} (h : MK υ φ ri dn r c u n) (hn : n ≤ n') : MK υ φ ri dn r c u n' := by
  obtain ⟨mk, mf, a, b, x, y, z⟩ := h
  exact ⟨mk, mf, a, b, by omega, by omega, z⟩
section WF
variable {υ0 τ1 : Sg} {r c u w q : Nat}
theorem WR.sz {υ φ : Sg} (h : WR υ0 τ1 υ φ r c u) (hz : Sz τ1 103 r c) : Sz φ 103 r c := by
  unfold Sz
  rw [h.2.2.2.2.2 11 (by decide), h.2.2.2.2.2 12 (by decide)]
  exact hz
theorem WR.bd {υ φ : Sg} (h : WR υ0 τ1 υ φ r c u) (hrc : r * c ≤ 16) : Bd φ 103 r c := fun o ho => by
  rcases h.2.1 o (by omega) with w | ⟨-, p', t', hp', ht', w, w2⟩
  · exact .inl w
  · exact .inr ⟨⟨p', hp', w⟩, t', ht', w2⟩
theorem WR.bdx {υ φ : Sg} (h : WR υ0 τ1 υ φ r c u) (hrc : r * c ≤ 16) : BdX υ 79 r c := fun o ho => by
  show υ 80 o = -1 ∨ ((∃ p, p < r * c ∧ υ 80 o = nI p) ∧ ∃ t, t < 4 ∧ υ 81 o = nI t)
  rw [(h.2.2.1 o (by omega)).1, (h.2.2.1 o (by omega)).2.1]
  rcases h.2.1 o (by omega) with w | ⟨-, p', t', hp', ht', w, w2⟩
  · exact .inl w
  · exact .inr ⟨⟨p', hp', w⟩, t', ht', w2⟩
/-- a change of marks alone -/
theorem WR.mark {υ φ : Sg} (h : WR υ0 τ1 υ φ r c u) {j j' : Nat} {v v' x x' : Int32} : WR υ0 τ1 (sg_up (sg_up υ 90 j v) 72 5 x) (sg_up (sg_up φ 125 j' v') 103 36 x') r c u := by
  obtain ⟨⟨a1, a2, a3, a4⟩, b, d, ⟨e1, e2, e3⟩, f, g⟩ := h
  refine ⟨⟨a1.fr (fun j hj => by rw [up_a (by omega), up_a (by omega)]), ?_, ?_, ?_⟩, ?_, ?_, ⟨fun a ha => ?_, ?_, ?_⟩, fun a x1 x2 x3 x4 => ?_, fun b' hb => ?_⟩
  · simp (disch := decide) only [up_a]; exact a2
  · simp (disch := decide) only [up_a]; exact a3
  · simp (disch := omega) only [rdN, wrN, rdZ, wrZ, p_put_eq, call_some, nzN, boN, nI_1, nI_add, pk_mul, lit_4, lit_16, le_T, le_F, lt_T, lt_F, eq_T, eq_F, le_T0, le_F0, lt_F0, lt_T0, eq_T0, eq_F0, eqm_F, up_s2, up_n2, Ev_some, nz_0, nz_1, if_true, if_false, reduceIte, and_true, true_and, and_false, false_and, b2_0, b2_1, Bool.true_eq_false, Bool.false_eq_true, not_true_eq_false, not_false_eq_true, a4]
  · simp (disch := decide) only [up_a]; exact b
  · simp (disch := decide) only [up_a]; exact d
  · rw [up_a (by omega), up_a (by omega)]; exact e1 a ha
  · simp (disch := decide) only [up_a]; exact e2
  · simp (disch := omega) only [rdN, wrN, rdZ, wrZ, p_put_eq, call_some, nzN, boN, nI_1, nI_add, pk_mul, lit_4, lit_16, le_T, le_F, lt_T, lt_F, eq_T, eq_F, le_T0, le_F0, lt_F0, lt_T0, eq_T0, eq_F0, eqm_F, up_s2, up_n2, Ev_some, nz_0, nz_1, if_true, if_false, reduceIte, and_true, true_and, and_false, false_and, b2_0, b2_1, Bool.true_eq_false, Bool.false_eq_true, not_true_eq_false, not_false_eq_true, e3]
  · rw [up_a x1, up_a x4]; exact f a x1 x2 x3 x4
  · rw [up_n2 (by omega), up_n2 (by omega)]; exact g b' hb
theorem WR.markM {υ φ : Sg} (h : WR υ0 τ1 υ φ r c u) {j' : Nat} {v' x' : Int32} : WR υ0 τ1 υ (sg_up (sg_up φ 125 j' v') 103 36 x') r c u := by
  obtain ⟨a, b, d, e, f, g⟩ := h
  refine ⟨a, ?_, ?_, e, fun a x1 x2 x3 x4 => ?_, fun b' hb => ?_⟩
  · simp (disch := decide) only [up_a]; exact b
  · simp (disch := decide) only [up_a]; exact d
  · rw [up_a x1, up_a x4]; exact f a x1 x2 x3 x4
  · rw [up_n2 (by omega), up_n2 (by omega)]; exact g b' hb
theorem WR.put {υ φ : Sg} (h : WR υ0 τ1 υ φ r c u) (hrc : r * c ≤ 16) (hq : q < r * c) (hf : φ 108 q = -1) {x : Int32} : WR υ0 τ1 (sg_up (sg_up (sg_up (sg_up υ 80 q (nI q)) 81 q (nI 0)) 82 q x) 83 q 1) (sg_up (sg_up φ 108 q (nI q)) 109 q (nI 0)) r c u := by
  obtain ⟨⟨a1, a2, a3, a4⟩, b, d, ⟨e1, e2, e3⟩, f, g⟩ := h
  have u8 : sg_up (sg_up φ 108 q (nI q)) 109 q (nI 0) 108 = ut (φ 108) q (nI q) := by rw [up_a (by decide), up_ut]
  have u9 : sg_up (sg_up φ 108 q (nI q)) 109 q (nI 0) 109 = ut (φ 109) q (nI 0) := by rw [up_ut, up_a (by decide)]
  refine ⟨⟨a1.fr (fun j hj => by simp (disch := omega) only [up_a]), ?_, ?_, ?_⟩, ?_, fun o ho => ?_, ⟨fun a ha => ?_, ?_, ?_⟩, fun a x1 x2 x3 x4 => ?_, fun b' hb => ?_⟩
  · simp (disch := decide) only [up_a]; exact a2
  · simp (disch := decide) only [up_a]; exact a3
  · simp (disch := omega) only [rdN, wrN, rdZ, wrZ, p_put_eq, call_some, nzN, boN, nI_1, nI_add, pk_mul, lit_4, lit_16, le_T, le_F, lt_T, lt_F, eq_T, eq_F, le_T0, le_F0, lt_F0, lt_T0, eq_T0, eq_F0, eqm_F, up_s2, up_n2, Ev_some, nz_0, nz_1, if_true, if_false, reduceIte, and_true, true_and, and_false, false_and, b2_0, b2_1, Bool.true_eq_false, Bool.false_eq_true, not_true_eq_false, not_false_eq_true, a4]
  · rw [u8, u9]; exact b.put hq hq (by decide)
  · rw [u8, u9, laid_put hq hrc (by omega) ho hf]
    obtain ⟨v1, v2, v3, v4⟩ := d o ho
    by_cases y : o = q
    · subst y
      exact ⟨by simp (disch := omega) only [rdN, wrN, rdZ, wrZ, p_put_eq, call_some, nzN, boN, nI_1, nI_add, pk_mul, lit_4, lit_16, le_T, le_F, lt_T, lt_F, eq_T, eq_F, le_T0, le_F0, lt_F0, lt_T0, eq_T0, eq_F0, eqm_F, up_s2, up_n2, Ev_some, nz_0, nz_1, if_true, if_false, reduceIte, and_true, true_and, and_false, false_and, b2_0, b2_1, Bool.true_eq_false, Bool.false_eq_true, not_true_eq_false, not_false_eq_true, ut_s], by simp (disch := omega) only [rdN, wrN, rdZ, wrZ, p_put_eq, call_some, nzN, boN, nI_1, nI_add, pk_mul, lit_4, lit_16, le_T, le_F, lt_T, lt_F, eq_T, eq_F, le_T0, le_F0, lt_F0, lt_T0, eq_T0, eq_F0, eqm_F, up_s2, up_n2, Ev_some, nz_0, nz_1, if_true, if_false, reduceIte, and_true, true_and, and_false, false_and, b2_0, b2_1, Bool.true_eq_false, Bool.false_eq_true, not_true_eq_false, not_false_eq_true, ut_s], by simp (disch := omega) only [rdN, wrN, rdZ, wrZ, p_put_eq, call_some, nzN, boN, nI_1, nI_add, pk_mul, lit_4, lit_16, le_T, le_F, lt_T, lt_F, eq_T, eq_F, le_T0, le_F0, lt_F0, lt_T0, eq_T0, eq_F0, eqm_F, up_s2, up_n2, Ev_some, nz_0, nz_1, if_true, if_false, reduceIte, and_true, true_and, and_false, false_and, b2_0, b2_1, Bool.true_eq_false, Bool.false_eq_true, not_true_eq_false, not_false_eq_true]; simp [b2], by simp (disch := omega) only [rdN, wrN, rdZ, wrZ, p_put_eq, call_some, nzN, boN, nI_1, nI_add, pk_mul, lit_4, lit_16, le_T, le_F, lt_T, lt_F, eq_T, eq_F, le_T0, le_F0, lt_F0, lt_T0, eq_T0, eq_F0, eqm_F, up_s2, up_n2, Ev_some, nz_0, nz_1, if_true, if_false, reduceIte, and_true, true_and, and_false, false_and, b2_0, b2_1, Bool.true_eq_false, Bool.false_eq_true, not_true_eq_false, not_false_eq_true, v4]⟩
    · exact ⟨by simp (disch := omega) only [rdN, wrN, rdZ, wrZ, p_put_eq, call_some, nzN, boN, nI_1, nI_add, pk_mul, lit_4, lit_16, le_T, le_F, lt_T, lt_F, eq_T, eq_F, le_T0, le_F0, lt_F0, lt_T0, eq_T0, eq_F0, eqm_F, up_s2, up_n2, Ev_some, nz_0, nz_1, if_true, if_false, reduceIte, and_true, true_and, and_false, false_and, b2_0, b2_1, Bool.true_eq_false, Bool.false_eq_true, not_true_eq_false, not_false_eq_true, ut_n y, v1], by simp (disch := omega) only [rdN, wrN, rdZ, wrZ, p_put_eq, call_some, nzN, boN, nI_1, nI_add, pk_mul, lit_4, lit_16, le_T, le_F, lt_T, lt_F, eq_T, eq_F, le_T0, le_F0, lt_F0, lt_T0, eq_T0, eq_F0, eqm_F, up_s2, up_n2, Ev_some, nz_0, nz_1, if_true, if_false, reduceIte, and_true, true_and, and_false, false_and, b2_0, b2_1, Bool.true_eq_false, Bool.false_eq_true, not_true_eq_false, not_false_eq_true, ut_n y, v2], by simp (disch := omega) only [rdN, wrN, rdZ, wrZ, p_put_eq, call_some, nzN, boN, nI_1, nI_add, pk_mul, lit_4, lit_16, le_T, le_F, lt_T, lt_F, eq_T, eq_F, le_T0, le_F0, lt_F0, lt_T0, eq_T0, eq_F0, eqm_F, up_s2, up_n2, Ev_some, nz_0, nz_1, if_true, if_false, reduceIte, and_true, true_and, and_false, false_and, b2_0, b2_1, Bool.true_eq_false, Bool.false_eq_true, not_true_eq_false, not_false_eq_true, v3]; simp [y], by simp (disch := omega) only [rdN, wrN, rdZ, wrZ, p_put_eq, call_some, nzN, boN, nI_1, nI_add, pk_mul, lit_4, lit_16, le_T, le_F, lt_T, lt_F, eq_T, eq_F, le_T0, le_F0, lt_F0, lt_T0, eq_T0, eq_F0, eqm_F, up_s2, up_n2, Ev_some, nz_0, nz_1, if_true, if_false, reduceIte, and_true, true_and, and_false, false_and, b2_0, b2_1, Bool.true_eq_false, Bool.false_eq_true, not_true_eq_false, not_false_eq_true, v4]⟩
  · simp (disch := omega) only [up_a]; exact e1 a ha
  · simp (disch := decide) only [up_a]; exact e2
  · simp (disch := omega) only [rdN, wrN, rdZ, wrZ, p_put_eq, call_some, nzN, boN, nI_1, nI_add, pk_mul, lit_4, lit_16, le_T, le_F, lt_T, lt_F, eq_T, eq_F, le_T0, le_F0, lt_F0, lt_T0, eq_T0, eq_F0, eqm_F, up_s2, up_n2, Ev_some, nz_0, nz_1, if_true, if_false, reduceIte, and_true, true_and, and_false, false_and, b2_0, b2_1, Bool.true_eq_false, Bool.false_eq_true, not_true_eq_false, not_false_eq_true, e3]
  · rw [up_a x3, up_a x2]; exact f a x1 x2 x3 x4
  · rw [up_n2 (by omega), up_n2 (by omega)]; exact g b' hb
/-- after a cell: nothing changed but there -/
def PoF (υ0 τ1 φ0 : Sg) (r c u q : Nat) (υ φ : Sg) : Prop := WR υ0 τ1 υ φ r c u ∧ ∀ o, o ≠ q → φ 108 o = φ0 108 o
/-- the turns of one piece at one cell -/
theorem w_turns (hzr : Sz τ1 103 r c) (he : Ed (τ1 105) (τ1 106)) (hu : u < 5) (hw : w < 6) (hk : ∃ d, d < 5 ∧ τ1 112 w = nI d) (hq : q < r * c) {p : Nat} (hp : p < r * c) {φ0 : Sg} {R10 : Int32 → Int32 → Int32 → Int32 → Sg → Rs} {R11 : Int32 → Int32 → Int32 → Int32 → Int32 → Sg → Rs} (cont : ∀ (s : Int32) (υ φ : Sg), WR υ0 τ1 υ φ r c u → MK υ φ (τ1 105) (τ1 106) r c u (4 * (p + 1)) → φ 108 = φ0 108 → R2 (R10 (nI w) (nI q) s (nI (p + 1)) υ) (R11 (nI u) (nI w) (nI q) s (nI (p + 1)) φ) (PoF υ0 τ1 φ0 r c u q)) (hq0 : φ0 108 q = -1) (hfree : laidB (φ0 108) (r * c) (nI p) = false) : ∀ (m t F G : Nat) (s : Int32) (υ φ : Sg), t + m = 4 → m < F → m < G → WR υ0 τ1 υ φ r c u → MK υ φ (τ1 105) (τ1 106) r c u (4 * p + t) → φ 108 = φ0 108 → R2 (f_X9_fillCell_b56 72 R10 F (nI w) (nI q) s (nI p) (nI t) υ) (f_X11_goesThrough_b57 103 R11 G (nI u) (nI w) (nI q) s (nI p) (nI t) φ) (PoF υ0 τ1 φ0 r c u q)
  | 0, t, F, G, s, υ, φ, ht, hF, hG, hR, hM, h0 => by
    obtain ⟨F', rfl⟩ : ∃ F', F = F' + 1 := ⟨F - 1, by omega⟩
    obtain ⟨G', rfl⟩ : ∃ G', G = G' + 1 := ⟨G - 1, by omega⟩
    have ht4 : t = 4 := by omega
    subst ht4
    rw [f_X9_fillCell_b56, f_X11_goesThrough_b57]
    simp (disch := omega) only [rdN, wrN, rdZ, wrZ, p_put_eq, call_some, nzN, boN, nI_1, nI_add, pk_mul, lit_4, lit_16, le_T, le_F, lt_T, lt_F, eq_T, eq_F, le_T0, le_F0, lt_F0, lt_T0, eq_T0, eq_F0, eqm_F, up_s2, up_n2, Ev_some, nz_0, nz_1, if_true, if_false, reduceIte, and_true, true_and, and_false, false_and, b2_0, b2_1, Bool.true_eq_false, Bool.false_eq_true, not_true_eq_false, not_false_eq_true, f_X9_fillCell_b181, f_X11_goesThrough_b176]
    exact cont s υ φ hR (hM.le (by omega)) h0
  | m + 1, t, F, G, s, υ, φ, ht, hF, hG, hR, hM, h0 => by
    obtain ⟨F', rfl⟩ : ∃ F', F = F' + 1 := ⟨F - 1, by omega⟩
    obtain ⟨G', rfl⟩ : ∃ G', G = G' + 1 := ⟨G - 1, by omega⟩
    have ht4 : t < 4 := by omega
    have hrc := hzr.rc
    have h1 := hzr.2.2.1
    have h2 := hzr.2.2.2
    have hp16 : p < 16 := by omega
    have hq16 : q < 16 := by omega
    have zφ := hR.sz hzr
    have bφ := hR.bd hrc
    have r105 : φ 105 = τ1 105 := hR.2.2.2.2.1 105 (by decide) (by decide) (by decide) (by decide)
    have r106 : φ 106 = τ1 106 := hR.2.2.2.2.1 106 (by decide) (by decide) (by decide) (by decide)
    have hz : CutOk υ 74 r c (τ1 105) (τ1 106) := hR.1.1
    have hu3 : υ 72 3 = nI u := hR.1.2.2.2
    obtain ⟨mk, mf, k1, k2, k3, k4, k5⟩ := id hM
    have go := w_turns hzr he hu hw hk hq hp cont hq0 hfree m (t + 1) F' G'
    rw [f_X9_fillCell_b56, f_X11_goesThrough_b57, if_neg (show ¬ (4 : Int32) ≤ nI t from nI_ge (b := 4) ht4 (by decide)), if_neg (show ¬ (4 : Int32) ≤ nI t from nI_ge (b := 4) ht4 (by decide)), hu3]
    -- the try itself
    have try1 : R2 (f_X9_fillCell_b84 72 R10 (f_X9_fillCell_b56 72 R10 F') (nI w) (nI q) s (nI p) (nI t) υ) (f_X11_goesThrough_b86 103 R11 (f_X11_goesThrough_b57 103 R11 G') (nI u) (nI w) (nI q) s (nI p) (nI t) φ) (PoF υ0 τ1 φ0 r c u q) := by
      have efit : fitX (τ1 105) (τ1 106) (υ 80) (υ 81) r c p t q = fit (τ1 105) (τ1 106) (φ 108) (φ 109) r c p t q := fit_free2 h1 h2 hR.2.1 (fun o ho => ⟨(hR.2.2.1 o ho).1, (hR.2.2.1 o ho).2.1⟩) hq (by rw [h0]; exact hfree)
      have e1 : f_X1_kindOf (72 + 1 + 1) (72 + 1 + 6) (nI p) (nI t) (nI q) υ = some (kindV (τ1 105) (τ1 106) (φ 108) (φ 109) r c p t q, υ) := by
        have := x_kindOf (k1 := 79) hz (hR.bdx hrc) hp ht4 hq
        rw [kindX_eq, show fitX (τ1 105) (τ1 106) (υ (79 + 1)) (υ (79 + 2)) r c p t q = _ from efit] at this
        exact this
      have e2 : f_X11_kindAt 103 (nI p) (nI t) (nI q) φ = some (kindV (τ1 105) (τ1 106) (φ 108) (φ 109) r c p t q, φ) := by
        have := y_kindAt zφ bφ hp ht4 hq
        rw [show φ (103 + 2) = τ1 105 from r105, show φ (103 + 3) = τ1 106 from r106] at this
        exact this
      have r107 : φ 107 = τ1 107 := hR.2.2.2.2.1 107 (by decide) (by decide) (by decide) (by decide)
      have r112 : φ 112 = τ1 112 := hR.2.2.2.2.1 112 (by decide) (by decide) (by decide) (by decide)
      have r113 : φ 113 = τ1 113 := hR.2.2.2.2.1 113 (by decide) (by decide) (by decide) (by decide)
      have e3 : f_X11_secondsOf 103 (nI w) (nI p) (nI t) (nI q) φ = some (secV (τ1 112 w) (τ1 113 w) (τ1 107) (τ1 105) (τ1 106) (φ 108) (φ 109) r c p t q, φ) := by
        have := y_secondsOf zφ bφ hw hp ht4 hq
        rw [show φ (103 + 2) = τ1 105 from r105, show φ (103 + 3) = τ1 106 from r106, show φ (103 + 4) = τ1 107 from r107, show φ (103 + 9) = τ1 112 from r112, show φ (103 + 10) = τ1 113 from r113] at this
        exact this
      have e4 : f_X3_costOf (72 + 1) (nI w) (nI p) (nI q) (kindV (τ1 105) (τ1 106) (φ 108) (φ 109) r c p t q) υ = some (secV (τ1 112 w) (τ1 113 w) (τ1 107) (τ1 105) (τ1 106) (φ 108) (φ 109) r c p t q, υ) := by
        have hk' : ∃ d, d < 5 ∧ υ (73 + 12 + 1) w = nI d := by
          obtain ⟨d, d1, d2⟩ := hk
          exact ⟨d, d1, (hR.1.2.2.1 w hw).1.trans d2⟩
        have := x_costOf (k := 73) (kd := kindV (τ1 105) (τ1 106) (φ 108) (φ 109) r c p t q) hz hk' hw hp hq
        rw [show υ (73 + 12 + 1) w = _ from (hR.1.2.2.1 w hw).1, show υ (73 + 12 + 2) w = _ from (hR.1.2.2.1 w hw).2, show υ (73 + 1 + 4) p = _ from hR.1.2.1 p hp, show υ (73 + 1 + 4) q = _ from hR.1.2.1 q hq] at this
        exact this
      unfold f_X9_fillCell_b84 f_X11_goesThrough_b86
      rw [e1, call_some, e4, call_some, e3, call_some]
      -- no luck: marked, on with the next turn
      have miss : ∀ s', R2 (f_X9_fillCell_b153 72 R10 (f_X9_fillCell_b56 72 R10 F') (nI w) (nI q) s' (nI p) (nI t) (kindV (τ1 105) (τ1 106) (φ 108) (φ 109) r c p t q) υ) (f_X11_goesThrough_b130 103 R11 (f_X11_goesThrough_b57 103 R11 G') (nI u) (nI w) (nI q) s' (nI p) (nI t) φ) (PoF υ0 τ1 φ0 r c u q) := by
        intro s'
        unfold f_X9_fillCell_b153 f_X11_goesThrough_b130 f_X9_fillCell_b175 f_X11_goesThrough_b170
        rw [e2, call_some, hu3, nI_1]
        have k34 : kindV (τ1 105) (τ1 106) (φ 108) (φ 109) r c p t q = 1 ∨ kindV (τ1 105) (τ1 106) (φ 108) (φ 109) r c p t q = 2 ∨ kindV (τ1 105) (τ1 106) (φ 108) (φ 109) r c p t q = 3 ∨ kindV (τ1 105) (τ1 106) (φ 108) (φ 109) r c p t q = 4 := by
          unfold kindV
          rcases Classical.propComplete (fit (τ1 105) (τ1 106) (φ 108) (φ 109) r c p t q = true) with pc1 | pc1 <;> rcases Classical.propComplete (p = q ∧ t = 0) with pc2 | pc2 <;> rcases Classical.propComplete (atRim (τ1 105) (τ1 106) r c p t q = true) with pc3 | pc3 <;> simp [pc1, pc2, pc3, b2]
        have low : ∀ K : Int32, K = 1 ∨ K = 2 → K < 3 ∧ K ≤ 2 := by
          rintro K (rfl | rfl) <;> decide
        have high : ∀ K : Int32, K = 3 ∨ K = 4 → ¬ K < 3 ∧ ¬ K ≤ 2 := by
          rintro K (rfl | rfl) <;> decide
        rcases (show (kindV (τ1 105) (τ1 106) (φ 108) (φ 109) r c p t q = 1 ∨ kindV (τ1 105) (τ1 106) (φ 108) (φ 109) r c p t q = 2) ∨ (kindV (τ1 105) (τ1 106) (φ 108) (φ 109) r c p t q = 3 ∨ kindV (τ1 105) (τ1 106) (φ 108) (φ 109) r c p t q = 4) by rcases k34 with a | a | a | a <;> simp [a]) with hk12 | hk34
        · obtain ⟨l1, l2⟩ := low _ hk12
          rw [if_pos l1, if_pos l2]
          have : (if nI u = 4 then f_X9_fillCell_b56 72 R10 F' (nI w) (nI q) s' (nI p) (nI (t + 1)) υ else f_X9_fillCell_b56 72 R10 F' (nI w) (nI q) s' (nI p) (nI (t + 1)) υ) = f_X9_fillCell_b56 72 R10 F' (nI w) (nI q) s' (nI p) (nI (t + 1)) υ := ite_self _
          rw [this]
          exact go s' υ φ (by omega) (by omega) (by omega) hR (hM.le (by omega)) h0
        · obtain ⟨l1, l2⟩ := high _ hk34
          have ef : f_X11_formOf 103 (nI p) (nI t) φ = some (codV 20 (τ1 105) (τ1 106) r c p t, φ) := by
            have := y_formOf zφ hp ht4
            rw [show φ (103 + 2) = τ1 105 from r105, show φ (103 + 3) = τ1 106 from r106] at this
            exact this
          rw [if_neg l1, if_neg l2, ef, call_some, k2, wrN (by omega) (by decide), p_put_eq, up_n2 (by omega), k2, nI_1]
          by_cases u4 : u = 4
          · subst u4
            obtain ⟨mm, mj⟩ := k5 rfl
            subst mm
            unfold f_X9_mark
            rw [if_pos (show nI 4 = 4 from rfl), show f_X1_codeOf (72 + 1 + 1) (nI p) (nI t) υ = _ from x_codeOf hz hp ht4, call_some, k1, wrN (by omega) (by decide), p_put_eq, up_n2 (by omega), k1, nI_1, call_some]
            refine go s' _ _ (by omega) (by omega) (by omega) hR.mark ⟨mk + 1, mk + 1, by simp (disch := omega) only [rdN, wrN, rdZ, wrZ, p_put_eq, call_some, nzN, boN, nI_1, nI_add, pk_mul, lit_4, lit_16, le_T, le_F, lt_T, lt_F, eq_T, eq_F, le_T0, le_F0, lt_F0, lt_T0, eq_T0, eq_F0, eqm_F, up_s2, up_n2, Ev_some, nz_0, nz_1, if_true, if_false, reduceIte, and_true, true_and, and_false, false_and, b2_0, b2_1, Bool.true_eq_false, Bool.false_eq_true, not_true_eq_false, not_false_eq_true], by simp (disch := omega) only [rdN, wrN, rdZ, wrZ, p_put_eq, call_some, nzN, boN, nI_1, nI_add, pk_mul, lit_4, lit_16, le_T, le_F, lt_T, lt_F, eq_T, eq_F, le_T0, le_F0, lt_F0, lt_T0, eq_T0, eq_F0, eqm_F, up_s2, up_n2, Ev_some, nz_0, nz_1, if_true, if_false, reduceIte, and_true, true_and, and_false, false_and, b2_0, b2_1, Bool.true_eq_false, Bool.false_eq_true, not_true_eq_false, not_false_eq_true], by omega, by omega, fun _ => ⟨rfl, fun j hj => ?_⟩⟩ (by simp (disch := decide) only [up_a]; exact h0)
            by_cases e : j = mk
            · subst e
              exact ⟨p, t, hp, ht4, by simp (disch := omega) only [rdN, wrN, rdZ, wrZ, p_put_eq, call_some, nzN, boN, nI_1, nI_add, pk_mul, lit_4, lit_16, le_T, le_F, lt_T, lt_F, eq_T, eq_F, le_T0, le_F0, lt_F0, lt_T0, eq_T0, eq_F0, eqm_F, up_s2, up_n2, Ev_some, nz_0, nz_1, if_true, if_false, reduceIte, and_true, true_and, and_false, false_and, b2_0, b2_1, Bool.true_eq_false, Bool.false_eq_true, not_true_eq_false, not_false_eq_true], by simp (disch := omega) only [rdN, wrN, rdZ, wrZ, p_put_eq, call_some, nzN, boN, nI_1, nI_add, pk_mul, lit_4, lit_16, le_T, le_F, lt_T, lt_F, eq_T, eq_F, le_T0, le_F0, lt_F0, lt_T0, eq_T0, eq_F0, eqm_F, up_s2, up_n2, Ev_some, nz_0, nz_1, if_true, if_false, reduceIte, and_true, true_and, and_false, false_and, b2_0, b2_1, Bool.true_eq_false, Bool.false_eq_true, not_true_eq_false, not_false_eq_true]⟩
            · obtain ⟨p', t', x1, x2, x3, x4⟩ := mj j (by omega)
              exact ⟨p', t', x1, x2, by simp (disch := omega) only [rdN, wrN, rdZ, wrZ, p_put_eq, call_some, nzN, boN, nI_1, nI_add, pk_mul, lit_4, lit_16, le_T, le_F, lt_T, lt_F, eq_T, eq_F, le_T0, le_F0, lt_F0, lt_T0, eq_T0, eq_F0, eqm_F, up_s2, up_n2, Ev_some, nz_0, nz_1, if_true, if_false, reduceIte, and_true, true_and, and_false, false_and, b2_0, b2_1, Bool.true_eq_false, Bool.false_eq_true, not_true_eq_false, not_false_eq_true, x3], by simp (disch := omega) only [rdN, wrN, rdZ, wrZ, p_put_eq, call_some, nzN, boN, nI_1, nI_add, pk_mul, lit_4, lit_16, le_T, le_F, lt_T, lt_F, eq_T, eq_F, le_T0, le_F0, lt_F0, lt_T0, eq_T0, eq_F0, eqm_F, up_s2, up_n2, Ev_some, nz_0, nz_1, if_true, if_false, reduceIte, and_true, true_and, and_false, false_and, b2_0, b2_1, Bool.true_eq_false, Bool.false_eq_true, not_true_eq_false, not_false_eq_true, x4]⟩
          · rw [if_neg (show ¬ nI u = 4 from fun e => u4 ((nI_eq (b := 4) (by omega) (by decide)).mp e))]
            exact go s' υ _ (by omega) (by omega) (by omega) hR.markM ⟨mk, mf + 1, k1, by simp (disch := omega) only [rdN, wrN, rdZ, wrZ, p_put_eq, call_some, nzN, boN, nI_1, nI_add, pk_mul, lit_4, lit_16, le_T, le_F, lt_T, lt_F, eq_T, eq_F, le_T0, le_F0, lt_F0, lt_T0, eq_T0, eq_F0, eqm_F, up_s2, up_n2, Ev_some, nz_0, nz_1, if_true, if_false, reduceIte, and_true, true_and, and_false, false_and, b2_0, b2_1, Bool.true_eq_false, Bool.false_eq_true, not_true_eq_false, not_false_eq_true], by omega, by omega, fun e => absurd e u4⟩ (by simp (disch := decide) only [up_a]; exact h0)
      by_cases hpq : p = q
      · subst hpq
        rw [if_pos rfl, if_pos rfl]
        by_cases ht0 : t = 0
        · subst ht0
          rw [if_pos (show nI 0 = 0 from rfl), if_pos (show nI 0 = 0 from rfl), show f_X0_put (72 + 1 + 6) (nI p) (nI p) (nI 0) (nI w) υ = _ from x_put (k := 79) hp16 hp16, call_some, wrN (by omega) (by decide), wrN (by omega) (by decide)]
          refine ⟨_, _, _, rfl, rfl, hR.put hrc hq (by rw [h0]; exact hq0), fun o ho => ?_⟩
          rw [up_n2 (by omega), up_n2 (by omega), h0]
        · have n0 : ¬ nI t = 0 := fun e => ht0 ((nI_s4 t ht4 0 (by decide)).mp e)
          rw [if_neg n0, if_neg n0]
          exact miss _
      · have npq : ¬ nI p = nI q := fun e => hpq ((nI_eq (by omega) (by omega)).mp e)
        rw [if_neg npq, if_neg npq]
        exact miss _
    by_cases u4 : u = 4
    · subst u4
      obtain ⟨mm, mj⟩ := k5 rfl
      subst mm
      have ef : f_X11_formOf 103 (nI p) (nI t) φ = some (codV 20 (τ1 105) (τ1 106) r c p t, φ) := by
        have := y_formOf zφ hp ht4
        rw [show φ (103 + 2) = τ1 105 from r105, show φ (103 + 3) = τ1 106 from r106] at this
        exact this
      rw [if_pos (show nI 4 = 4 from rfl), if_pos (show nI 4 = 4 from rfl), x_isMarked hz hp ht4 k1 (by omega), call_some, ef, call_some, y_hasFailed k2 (by omega), call_some]
      have eff : ff (fun j => decide (υ (72 + 18) j = codV 19 (τ1 105) (τ1 106) r c p t)) 0 mk = ff (fun j => decide (φ (103 + 22) j = codV 20 (τ1 105) (τ1 106) r c p t)) 0 mk := ff_congr _ _ (fun j _ hj => by
        obtain ⟨p', t', x1, x2, x3, x4⟩ := mj j (by omega)
        rw [show υ (72 + 18) j = _ from x3, show φ (103 + 22) j = _ from x4]
        exact decide_eq_decide.mpr (cod_eq h1 h2 he x1 hp))
      rw [eff]
      cases (ff (fun j => decide (φ (103 + 22) j = codV 20 (τ1 105) (τ1 106) r c p t)) 0 mk).isSome
      · rw [if_pos (show b2 false = 0 from rfl), if_pos (show b2 false = 0 from rfl)]
        exact try1
      · rw [if_neg (show ¬ b2 true = 0 by decide), if_neg (show ¬ b2 true = 0 by decide), f_X9_fillCell_b175, f_X11_goesThrough_b170, nI_1]
        exact go s υ φ (by omega) (by omega) (by omega) hR (hM.le (by omega)) h0
    · have n4 : ¬ nI u = 4 := fun e => u4 ((nI_eq (b := 4) (by omega) (by decide)).mp e)
      rw [if_neg n4, if_neg n4]
      exact try1
/-- the pieces at one cell -/
theorem w_pieces (hzr : Sz τ1 103 r c) (he : Ed (τ1 105) (τ1 106)) (hl : ∀ p, p < 16 → τ1 111 p = 0 ∨ τ1 111 p = 1) (hu : u < 5) (hw : w < 6) (hk : ∃ d, d < 5 ∧ τ1 112 w = nI d) (hq : q < r * c) {φ0 : Sg} (hq0 : φ0 108 q = -1) : ∀ (m p F G : Nat) (s : Int32) (υ φ : Sg), p + m = r * c → m < F → m < G → WR υ0 τ1 υ φ r c u → MK υ φ (τ1 105) (τ1 106) r c u (4 * p) → φ 108 = φ0 108 → R2 (f_X9_fillCell_b10 72 F (nI w) (nI q) s (nI p) υ) (f_X11_goesThrough_b11 103 G (nI u) (nI w) (nI q) s (nI p) φ) (PoF υ0 τ1 φ0 r c u q)
  | 0, p, F, G, s, υ, φ, hp, hF, hG, hR, hM, h0 => by
    obtain ⟨F', rfl⟩ : ∃ F', F = F' + 1 := ⟨F - 1, by omega⟩
    obtain ⟨G', rfl⟩ : ∃ G', G = G' + 1 := ⟨G - 1, by omega⟩
    have hrc := hzr.rc
    rw [f_X9_fillCell_b10, f_X11_goesThrough_b11, show υ (72 + 1 + 1) 2 = nI (r * c) from hR.1.1.n]
    simp (disch := omega) only [rdN, wrN, rdZ, wrZ, p_put_eq, call_some, nzN, boN, nI_1, nI_add, pk_mul, lit_4, lit_16, le_T, le_F, lt_T, lt_F, eq_T, eq_F, le_T0, le_F0, lt_F0, lt_T0, eq_T0, eq_F0, eqm_F, up_s2, up_n2, Ev_some, nz_0, nz_1, if_true, if_false, reduceIte, and_true, true_and, and_false, false_and, b2_0, b2_1, Bool.true_eq_false, Bool.false_eq_true, not_true_eq_false, not_false_eq_true, y_cells (hR.sz hzr)]
    exact ⟨s, υ, φ, rfl, rfl, hR, fun o _ => by rw [h0]⟩
  | m + 1, p, F, G, s, υ, φ, hp, hF, hG, hR, hM, h0 => by
    obtain ⟨F', rfl⟩ : ∃ F', F = F' + 1 := ⟨F - 1, by omega⟩
    obtain ⟨G', rfl⟩ : ∃ G', G = G' + 1 := ⟨G - 1, by omega⟩
    have hrc := hzr.rc
    have hpr : p < r * c := by omega
    have hp16 : p < 16 := by omega
    have zφ := hR.sz hzr
    have go := w_pieces hzr he hl hu hw hk hq hq0 m (p + 1) F' G'
    have r111 : φ (103 + 8) = τ1 111 := hR.2.2.2.2.1 111 (by decide) (by decide) (by decide) (by decide)
    have r105 : φ (103 + 2) = τ1 105 := hR.2.2.2.2.1 105 (by decide) (by decide) (by decide) (by decide)
    have r106 : φ (103 + 3) = τ1 106 := hR.2.2.2.2.1 106 (by decide) (by decide) (by decide) (by decide)
    have r107 : φ (103 + 4) = τ1 107 := hR.2.2.2.2.1 107 (by decide) (by decide) (by decide) (by decide)
    have ea : aw (υ (79 + 4)) (υ (79 + 5)) p = (laidB (φ 108) (r * c) (nI p) || decide (τ1 111 p = 1)) := by
      unfold aw
      rw [show υ (79 + 4) p = _ from (hR.2.2.1 p hp16).2.2.1, show υ (79 + 5) p = _ from (hR.2.2.1 p hp16).2.2.2]
      rcases hl p hp16 with e | e <;> rw [e] <;> cases laidB (φ 108) (r * c) (nI p) <;> decide
    have eas : f_X11_isAsked 103 (nI u) (nI p) (nI q) φ = some (b2 (askV (τ1 107) (τ1 105) (τ1 106) r c u p q), φ) := by
      have := y_isAsked zφ hu hpr hq
      rw [r105, r106, r107] at this
      exact this
    have ech : f_X9_isChosen 72 (nI p) (nI q) υ = some (b2 (askV (τ1 107) (τ1 105) (τ1 106) r c u p q), υ) := x_isChosen (k := 72) hR.1.1 he hR.1.2.1 hR.1.2.2.2 hu hpr hq
    rw [f_X9_fillCell_b10, f_X11_goesThrough_b11, show υ (72 + 1 + 1) 2 = nI (r * c) from hR.1.1.n, y_cells zφ, call_some, if_neg (nI_ge (by omega) (by omega)), if_neg (nI_ge (by omega) (by omega)), show f_X0_isAway (72 + 1 + 6) (nI p) υ = _ from x_isAway (k := 79) hp16, call_some, ea, rdN (by omega) (by decide), r111, y_isLaid zφ, call_some]
    show R2 (if b2 (laidB (φ 108) (r * c) (nI p) || decide (τ1 111 p = 1)) = 0 then _ else _) (if τ1 111 p = 1 then _ else if b2 (laidB (φ 108) (r * c) (nI p)) = 0 then _ else _) _
    unfold f_X9_fillCell_b181 f_X11_goesThrough_b176
    have skip : R2 (f_X9_fillCell_b10 72 F' (nI w) (nI q) s (nI p + 1) υ) (f_X11_goesThrough_b11 103 G' (nI u) (nI w) (nI q) s (nI p + 1) φ) (PoF υ0 τ1 φ0 r c u q) := by
      rw [nI_1]
      exact go s υ φ (by omega) (by omega) (by omega) hR (hM.le (by omega)) h0
    rcases hl p hp16 with ll | ll
    · rw [ll, if_neg (show ¬ (0 : Int32) = 1 by decide)]
      cases hlaid : laidB (φ 108) (r * c) (nI p) with
      | true =>
        rw [if_neg (by decide), if_neg (by decide)]
        exact skip
      | false =>
        rw [if_pos (by decide), if_pos (by decide), ech, call_some, eas, call_some]
        cases askV (τ1 107) (τ1 105) (τ1 106) r c u p q
        · rw [if_pos (show b2 false = 0 from rfl), if_pos (show b2 false = 0 from rfl)]
          exact skip
        · rw [if_neg (show ¬ b2 true = 0 by decide), if_neg (show ¬ b2 true = 0 by decide)]
          exact w_turns hzr he hu hw hk hq hpr (fun s' υ' φ' a1 a2 a3 => go s' υ' φ' (by omega) (by omega) (by omega) a1 a2 a3) hq0 (by rw [← h0]; exact hlaid) 4 0 fu fu s υ φ (by decide) (by decide) (by decide) hR hM h0
    · rw [ll, if_pos rfl, if_neg (by cases laidB (φ 108) (r * c) (nI p) <;> decide)]
      exact skip
theorem w_fill (hzr : Sz τ1 103 r c) (he : Ed (τ1 105) (τ1 106)) (hl : ∀ p, p < 16 → τ1 111 p = 0 ∨ τ1 111 p = 1) (hu : u < 5) (hw : w < 6) (hk : ∃ d, d < 5 ∧ τ1 112 w = nI d) (hq : q < r * c) {υ φ : Sg} (hR : WR υ0 τ1 υ φ r c u) (hq0 : φ 108 q = -1) : R2 (f_X9_fillCell 72 (nI w) (nI q) υ) (f_X11_goesThrough 103 (nI u) (nI w) (nI q) φ) (PoF υ0 τ1 φ r c u q) := by
  have hrc := hzr.rc
  unfold f_X9_fillCell f_X11_goesThrough
  rw [p_put_eq, p_put_eq]
  obtain ⟨⟨a1, a2, a3, a4⟩, b, d, ⟨e1, e2, e3⟩, f, g⟩ := hR
  have hR' : WR υ0 τ1 (sg_up υ 72 5 0) (sg_up φ 103 36 0) r c u := by
    refine ⟨⟨a1.fr (fun j hj => up_a (by omega)), ?_, ?_, ?_⟩, ?_, ?_, ⟨fun a ha => ?_, ?_, ?_⟩, fun a x1 x2 x3 x4 => ?_, fun b' hb => ?_⟩
    · rw [up_a (by decide)]; exact a2
    · rw [up_a (by decide), up_a (by decide)]; exact a3
    · simp (disch := omega) only [rdN, wrN, rdZ, wrZ, p_put_eq, call_some, nzN, boN, nI_1, nI_add, pk_mul, lit_4, lit_16, le_T, le_F, lt_T, lt_F, eq_T, eq_F, le_T0, le_F0, lt_F0, lt_T0, eq_T0, eq_F0, eqm_F, up_s2, up_n2, Ev_some, nz_0, nz_1, if_true, if_false, reduceIte, and_true, true_and, and_false, false_and, b2_0, b2_1, Bool.true_eq_false, Bool.false_eq_true, not_true_eq_false, not_false_eq_true, a4]
    · rw [up_a (by decide), up_a (by decide)]; exact b
    · simp (disch := decide) only [up_a]; exact d
    · rw [up_a (by omega)]; exact e1 a ha
    · rw [up_a (by decide)]; exact e2
    · simp (disch := omega) only [rdN, wrN, rdZ, wrZ, p_put_eq, call_some, nzN, boN, nI_1, nI_add, pk_mul, lit_4, lit_16, le_T, le_F, lt_T, lt_F, eq_T, eq_F, le_T0, le_F0, lt_F0, lt_T0, eq_T0, eq_F0, eqm_F, up_s2, up_n2, Ev_some, nz_0, nz_1, if_true, if_false, reduceIte, and_true, true_and, and_false, false_and, b2_0, b2_1, Bool.true_eq_false, Bool.false_eq_true, not_true_eq_false, not_false_eq_true, e3]
    · rw [up_a x1]; exact f a x1 x2 x3 x4
    · rw [up_n2 (by omega)]; exact g b' hb
  exact w_pieces hzr he hl hu hw hk hq (φ0 := φ) hq0 (r * c) 0 fu fu 0 _ _ (by omega) (by unfold fu; omega) (by unfold fu; omega) hR' ⟨0, 0, by simp (disch := omega) only [rdN, wrN, rdZ, wrZ, p_put_eq, call_some, nzN, boN, nI_1, nI_add, pk_mul, lit_4, lit_16, le_T, le_F, lt_T, lt_F, eq_T, eq_F, le_T0, le_F0, lt_F0, lt_T0, eq_T0, eq_F0, eqm_F, up_s2, up_n2, Ev_some, nz_0, nz_1, if_true, if_false, reduceIte, and_true, true_and, and_false, false_and, b2_0, b2_1, Bool.true_eq_false, Bool.false_eq_true, not_true_eq_false, not_false_eq_true]; rfl, by simp (disch := omega) only [rdN, wrN, rdZ, wrZ, p_put_eq, call_some, nzN, boN, nI_1, nI_add, pk_mul, lit_4, lit_16, le_T, le_F, lt_T, lt_F, eq_T, eq_F, le_T0, le_F0, lt_F0, lt_T0, eq_T0, eq_F0, eqm_F, up_s2, up_n2, Ev_some, nz_0, nz_1, if_true, if_false, reduceIte, and_true, true_and, and_false, false_and, b2_0, b2_1, Bool.true_eq_false, Bool.false_eq_true, not_true_eq_false, not_false_eq_true]; rfl, Nat.zero_le _, Nat.zero_le _, fun _ => ⟨rfl, fun j hj => absurd hj (Nat.not_lt_zero _)⟩⟩ (up_a (by decide))
end WF
