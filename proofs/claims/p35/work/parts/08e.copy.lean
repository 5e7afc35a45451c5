/-! the class's copies: of cuts, people, games; edges classed anew -/
theorem cpyN {σ : Sg} {k0 n0 k1 n1 n : Nat} {K : Sg → Rs} {x : Int32} (hx : x = nI n) (h0 : n ≤ n0) (h1 : n ≤ n1) (h2 : n < 1000) : p_cpy σ k0 n0 k1 n1 0 0 x K = K (sg_row σ k1 (va_cpy (σ k0) (σ k1) 0 0 n)) := by
  subst hx
  unfold p_cpy
  rw [if_pos ⟨⟨by decide, by decide, nI_pos' (by omega)⟩, by rw [nI_clamp (by omega)]; show 0 + n ≤ n0; omega, by rw [nI_clamp (by omega)]; show 0 + n ≤ n1; omega⟩, nI_clamp (by omega)]
  rfl
theorem row_s {σ : Sg} {k a : Nat} {f : Nat → Int32} (h : a = k) : sg_row σ k f a = f := if_pos h
theorem row_n {σ : Sg} {k a : Nat} {f : Nat → Int32} (h : ¬ a = k) : sg_row σ k f a = σ a := if_neg h
theorem cpy_in {f g : Nat → Int32} {n j : Nat} (h : j < n) : va_cpy f g 0 0 n j = f j := by
  rw [pk_cpy_in (Nat.zero_le _) (by omega)]
  congr 1
  omega
theorem Fr.row {a b k : Nat} {σ υ : Sg} {f : Nat → Int32} (h : Fr a b σ υ) (hk : a ≤ k ∧ k ≤ b) : Fr a b σ (sg_row υ k f) := fun x hx => by
  rw [row_n (by omega)]
  exact h x hx
def EqC (υ : Sg) (k1 : Nat) (σ : Sg) (k2 : Nat) : Prop := (υ k1 0 = σ k2 0 ∧ υ k1 1 = σ k2 1 ∧ υ k1 2 = σ k2 2) ∧ (∀ i, i < 64 → υ (k1 + 1) i = σ (k2 + 1) i ∧ υ (k1 + 2) i = σ (k2 + 2) i) ∧ ∀ i, i < 16 → υ (k1 + 3) i = σ (k2 + 3) i ∧ υ (k1 + 4) i = σ (k2 + 4) i
theorem x_copyC {σ : Sg} {k k1 : Nat} (hd : k + 4 < k1 ∨ k1 + 4 < k) (hb : ∀ i, i < 16 → nz (σ (k1 + 3) i) = σ (k1 + 3) i) : Ev (f_X1_copyFrom k k1 σ) (fun _ υ => Fr k (k + 4) σ υ ∧ EqC υ k σ k1) := by
  unfold f_X1_copyFrom
  rw [p_put_eq, p_put_eq, p_put_eq, cpyN (n := 64) (x := 64) rfl (by decide) (by decide) (by decide), cpyN (n := 64) (x := 64) rfl (by decide) (by decide) (by decide)]
  have E0 : ∀ {j : Nat}, j < 16 → nI 0 = 0 := fun _ => rfl
  refine lp_ev (L := fun n i υ => f_X1_copyFrom_b62 k k1 n (nI i) υ) (m := 16) (I := fun n υ => Fr k (k + 4) σ υ ∧ (υ k 0 = σ k1 0 ∧ υ k 1 = σ k1 1 ∧ υ k 2 = σ k1 2) ∧ (∀ i, i < 64 → υ (k + 1) i = σ (k1 + 1) i ∧ υ (k + 2) i = σ (k1 + 2) i) ∧ ∀ i, i < n → υ (k + 3) i = σ (k1 + 3) i ∧ υ (k + 4) i = σ (k1 + 4) i) (fun n υ h => ?_) (fun n i υ hi h ih => ?_) fu 0 _ (by decide) (fu_lt (by decide)) ⟨((((Fr.refl.up (by omega)).up (by omega)).up (by omega)).row (by omega)).row (by omega), ⟨?_, ?_, ?_⟩, fun i hi => ⟨?_, ?_⟩, fun i h => absurd h (Nat.not_lt_zero _)⟩
  · show Ev (f_X1_copyFrom_b62 k k1 (n + 1) (nI 16) υ) _
    simp (disch := omega) only [rdN, wrN, rdZ, wrZ, p_put_eq, call_some, nzN, boN, nI_1, nI_add, pk_mul, lit_4, lit_16, le_T, le_F, lt_T, lt_F, eq_T, eq_F, le_T0, le_F0, lt_F0, lt_T0, eq_T0, eq_F0, eqm_F, up_s2, up_n2, Ev_some, nz_0, nz_1, if_true, if_false, reduceIte, and_true, true_and, and_false, false_and, b2_0, b2_1, Bool.true_eq_false, Bool.false_eq_true, not_true_eq_false, not_false_eq_true, f_X1_copyFrom_b62]
    exact h
  · show Ev (f_X1_copyFrom_b62 k k1 (n + 1) (nI i) υ) _
    obtain ⟨hf, ⟨a0, a1, a2⟩, ha, he⟩ := h
    have q3 := hf (k1 + 3) (by omega)
    have q4 := hf (k1 + 4) (by omega)
    simp (disch := omega) only [rdN, wrN, rdZ, wrZ, p_put_eq, call_some, nzN, boN, nI_1, nI_add, pk_mul, lit_4, lit_16, le_T, le_F, lt_T, lt_F, eq_T, eq_F, le_T0, le_F0, lt_F0, lt_T0, eq_T0, eq_F0, eqm_F, up_s2, up_n2, Ev_some, nz_0, nz_1, if_true, if_false, reduceIte, and_true, true_and, and_false, false_and, b2_0, b2_1, Bool.true_eq_false, Bool.false_eq_true, not_true_eq_false, not_false_eq_true, f_X1_copyFrom_b62, q3, q4, hb i hi]
    refine ih _ ⟨(hf.up (by omega)).up (by omega), ⟨?_, ?_, ?_⟩, fun j hj => ⟨?_, ?_⟩, fun j hj => ?_⟩
    · simp (disch := omega) only [rdN, wrN, rdZ, wrZ, p_put_eq, call_some, nzN, boN, nI_1, nI_add, pk_mul, lit_4, lit_16, le_T, le_F, lt_T, lt_F, eq_T, eq_F, le_T0, le_F0, lt_F0, lt_T0, eq_T0, eq_F0, eqm_F, up_s2, up_n2, Ev_some, nz_0, nz_1, if_true, if_false, reduceIte, and_true, true_and, and_false, false_and, b2_0, b2_1, Bool.true_eq_false, Bool.false_eq_true, not_true_eq_false, not_false_eq_true, a0]
    · simp (disch := omega) only [rdN, wrN, rdZ, wrZ, p_put_eq, call_some, nzN, boN, nI_1, nI_add, pk_mul, lit_4, lit_16, le_T, le_F, lt_T, lt_F, eq_T, eq_F, le_T0, le_F0, lt_F0, lt_T0, eq_T0, eq_F0, eqm_F, up_s2, up_n2, Ev_some, nz_0, nz_1, if_true, if_false, reduceIte, and_true, true_and, and_false, false_and, b2_0, b2_1, Bool.true_eq_false, Bool.false_eq_true, not_true_eq_false, not_false_eq_true, a1]
    · simp (disch := omega) only [rdN, wrN, rdZ, wrZ, p_put_eq, call_some, nzN, boN, nI_1, nI_add, pk_mul, lit_4, lit_16, le_T, le_F, lt_T, lt_F, eq_T, eq_F, le_T0, le_F0, lt_F0, lt_T0, eq_T0, eq_F0, eqm_F, up_s2, up_n2, Ev_some, nz_0, nz_1, if_true, if_false, reduceIte, and_true, true_and, and_false, false_and, b2_0, b2_1, Bool.true_eq_false, Bool.false_eq_true, not_true_eq_false, not_false_eq_true, a2]
    · simp (disch := omega) only [rdN, wrN, rdZ, wrZ, p_put_eq, call_some, nzN, boN, nI_1, nI_add, pk_mul, lit_4, lit_16, le_T, le_F, lt_T, lt_F, eq_T, eq_F, le_T0, le_F0, lt_F0, lt_T0, eq_T0, eq_F0, eqm_F, up_s2, up_n2, Ev_some, nz_0, nz_1, if_true, if_false, reduceIte, and_true, true_and, and_false, false_and, b2_0, b2_1, Bool.true_eq_false, Bool.false_eq_true, not_true_eq_false, not_false_eq_true, (ha j hj).1]
    · simp (disch := omega) only [rdN, wrN, rdZ, wrZ, p_put_eq, call_some, nzN, boN, nI_1, nI_add, pk_mul, lit_4, lit_16, le_T, le_F, lt_T, lt_F, eq_T, eq_F, le_T0, le_F0, lt_F0, lt_T0, eq_T0, eq_F0, eqm_F, up_s2, up_n2, Ev_some, nz_0, nz_1, if_true, if_false, reduceIte, and_true, true_and, and_false, false_and, b2_0, b2_1, Bool.true_eq_false, Bool.false_eq_true, not_true_eq_false, not_false_eq_true, (ha j hj).2]
    · rcases Nat.lt_or_ge j i with q | q
      · simp (disch := omega) only [rdN, wrN, rdZ, wrZ, p_put_eq, call_some, nzN, boN, nI_1, nI_add, pk_mul, lit_4, lit_16, le_T, le_F, lt_T, lt_F, eq_T, eq_F, le_T0, le_F0, lt_F0, lt_T0, eq_T0, eq_F0, eqm_F, up_s2, up_n2, Ev_some, nz_0, nz_1, if_true, if_false, reduceIte, and_true, true_and, and_false, false_and, b2_0, b2_1, Bool.true_eq_false, Bool.false_eq_true, not_true_eq_false, not_false_eq_true, (he j q).1, (he j q).2]
      · have : j = i := by omega
        subst this
        simp (disch := omega) only [rdN, wrN, rdZ, wrZ, p_put_eq, call_some, nzN, boN, nI_1, nI_add, pk_mul, lit_4, lit_16, le_T, le_F, lt_T, lt_F, eq_T, eq_F, le_T0, le_F0, lt_F0, lt_T0, eq_T0, eq_F0, eqm_F, up_s2, up_n2, Ev_some, nz_0, nz_1, if_true, if_false, reduceIte, and_true, true_and, and_false, false_and, b2_0, b2_1, Bool.true_eq_false, Bool.false_eq_true, not_true_eq_false, not_false_eq_true]
  · simp (disch := omega) only [row_n, up_s2, up_n2]
  · simp (disch := omega) only [row_n, up_s2, up_n2]
  · simp (disch := omega) only [row_n, up_s2, up_n2]
  · simp (disch := omega) only [row_n, row_s, cpy_in, up_n2]
  · simp (disch := omega) only [row_n, row_s, cpy_in, up_n2]
def EqP (υ : Sg) (k1 : Nat) (σ : Sg) (k2 : Nat) : Prop := υ k1 0 = σ k2 0 ∧ ∀ i, i < 6 → υ (k1 + 1) i = σ (k2 + 1) i ∧ υ (k1 + 2) i = σ (k2 + 2) i ∧ υ (k1 + 3) i = σ (k2 + 3) i
theorem x_copyP {σ : Sg} {k k1 : Nat} (hd : k + 3 < k1 ∨ k1 + 3 < k) : Ev (f_X4_copyFrom k k1 σ) (fun _ υ => Fr k (k + 3) σ υ ∧ EqP υ k σ k1) := by
  unfold f_X4_copyFrom
  rw [p_put_eq, cpyN (n := 6) (x := 6) rfl (by decide) (by decide) (by decide), cpyN (n := 6) (x := 6) rfl (by decide) (by decide) (by decide), cpyN (n := 6) (x := 6) rfl (by decide) (by decide) (by decide), Ev_some]
  refine ⟨(((Fr.refl.up (by omega)).row (by omega)).row (by omega)).row (by omega), ?_, fun i hi => ⟨?_, ?_, ?_⟩⟩
  · simp (disch := omega) only [row_n, up_s2, up_n2]
  · simp (disch := omega) only [row_n, row_s, cpy_in, up_n2]
  · simp (disch := omega) only [row_n, row_s, cpy_in, up_n2]
  · simp (disch := omega) only [row_n, row_s, cpy_in, up_n2]
/-- the class's game at k1 in υ is that at k2 in σ -/
def EqG (υ : Sg) (k1 : Nat) (σ : Sg) (k2 : Nat) : Prop := EqC υ (k1 + 1) σ (k2 + 1) ∧ EqB υ (k1 + 6) σ (k2 + 6) 16 ∧ EqP υ (k1 + 12) σ (k2 + 12)
theorem EqC.fr {υ φ σ : Sg} {k1 k2 : Nat} (h : EqC υ k1 σ k2) (e : ∀ j, j ≤ 4 → φ (k1 + j) = υ (k1 + j)) : EqC φ k1 σ k2 := by
  have q0 := e 0 (by decide)
  have q1 := e 1 (by decide)
  have q2 := e 2 (by decide)
  have q3 := e 3 (by decide)
  have q4 := e 4 (by decide)
  rw [Nat.add_zero] at q0
  unfold EqC
  rw [q0, q1, q2, q3, q4]
  exact h
theorem EqB.fr {υ φ σ : Sg} {k1 k2 n : Nat} (h : EqB υ k1 σ k2 n) (e : ∀ j, 1 ≤ j → j ≤ 5 → φ (k1 + j) = υ (k1 + j)) : EqB φ k1 σ k2 n := by
  unfold EqB
  rw [e 1 (by decide) (by decide), e 2 (by decide) (by decide), e 3 (by decide) (by decide), e 4 (by decide) (by decide), e 5 (by decide) (by decide)]
  exact h
theorem EqB.src {υ σ ψ : Sg} {k1 k2 n : Nat} (h : EqB υ k1 ψ k2 n) (e : ∀ j, 1 ≤ j → j ≤ 5 → ψ (k2 + j) = σ (k2 + j)) : EqB υ k1 σ k2 n := by
  unfold EqB at h
  rw [e 1 (by decide) (by decide), e 2 (by decide) (by decide), e 3 (by decide) (by decide), e 4 (by decide) (by decide), e 5 (by decide) (by decide)] at h
  exact h
theorem EqP.src {υ σ ψ : Sg} {k1 k2 : Nat} (h : EqP υ k1 ψ k2) (e : ∀ j, j ≤ 3 → ψ (k2 + j) = σ (k2 + j)) : EqP υ k1 σ k2 := by
  have q0 := e 0 (by decide)
  rw [Nat.add_zero] at q0
  unfold EqP at h
  rw [q0, e 1 (by decide), e 2 (by decide), e 3 (by decide)] at h
  exact h
theorem x_copyG {σ : Sg} {k k1 : Nat} (hd : k + 15 < k1 ∨ k1 + 15 < k) (hb : BoB σ (k1 + 6)) (hb2 : ∀ i, i < 16 → nz (σ (k1 + 1 + 3) i) = σ (k1 + 1 + 3) i) : Ev (f_X3_copyFrom k k1 σ) (fun _ υ => Fr (k + 1) (k + 15) σ υ ∧ EqG υ k σ k1) := by
  unfold f_X3_copyFrom
  refine Ev.call (x_copyC (by omega) hb2) (fun _ υ ⟨hf, hc⟩ => ?_)
  have hb' : BoB υ (k1 + 6) := by
    unfold BoB
    rw [hf (k1 + 6 + 4) (by omega), hf (k1 + 6 + 5) (by omega)]
    exact hb
  refine Ev.call (x_copyB (by omega) hb') (fun _ φ ⟨hf2, hc2⟩ => ?_)
  refine Ev.call (x_copyP (by omega)) (fun _ ψ ⟨hf3, hc3⟩ => ?_)
  rw [Ev_some]
  refine ⟨((hf.wide (by omega) (by omega)).trans (hf2.wide (by omega) (by omega))).trans (hf3.wide (by omega) (by omega)), hc.fr (fun j hj => ?_), (hc2.fr (fun j h1 h2 => ?_)).src (fun j h1 h2 => ?_), hc3.src (fun j h2 => ?_)⟩
  · exact (hf3 _ (by omega)).trans (hf2 _ (by omega))
  · exact hf3 _ (by omega)
  · exact hf _ (by omega)
  · exact (hf2 _ (by omega)).trans (hf _ (by omega))
theorem CutOk.eq {υ σ : Sg} {k1 k2 r c : Nat} {ri dn : Nat → Int32} (h : CutOk σ k2 r c ri dn) (e : EqC υ k1 σ k2) : CutOk υ k1 r c ri dn := by
  have hrc := h.rc
  obtain ⟨g0, g1, g2, h1, h2, gv, gr⟩ := h
  obtain ⟨⟨a0, a1, a2⟩, ha, hb⟩ := e
  refine ⟨a0.trans g0, a1.trans g1, a2.trans g2, h1, h2, fun p hp s hs => ⟨?_, ?_⟩, fun p hp => ?_⟩
  · rw [(ha _ (by omega)).2]; exact (gv p hp s hs).1
  · rw [(ha _ (by omega)).1]; exact (gv p hp s hs).2
  · rw [(hb p (by omega)).1]; exact gr p hp
/-- one edge classed: its sign stays -/
def clV (v : Int32) (m n : Nat) : Int32 := if v ≤ 0 then -(nI (1 + n % m)) else nI (1 + n % m)
/-- the edges classed from cell p on over d cells; n: how many are before -/
def rcl (m r c : Nat) : Nat → Nat → Nat → (Nat → Int32) → (Nat → Int32) → (Nat → Int32) × (Nat → Int32)
  | 0, _, _, ri, dn => (ri, dn)
  | d + 1, p, n, ri, dn => rcl m r c d (p + 1) (n + (bs r c p 1).isSome.toNat + (bs r c p 2).isSome.toNat) (if (bs r c p 1).isSome = true then ut ri p (clV (ri p) m n) else ri) (if (bs r c p 2).isSome = true then ut dn p (clV (dn p) m (n + (bs r c p 1).isSome.toNat)) else dn)
theorem ecl {m n : Nat} (hm : 1 ≤ m ∧ m < 100) (hn : n < 1000) : 1 + (nI n - nI n / nI m * nI m) = nI (1 + n % m) := by
  rw [pk_rem (by omega) (by omega) (by omega), show (1 : Int32) = nI 1 from rfl, nI_add]
theorem sdv_1 {ri dn : Nat → Int32} {r c p q : Nat} (h : bs r c p 1 = some q) : sdv ri dn r c p 1 = ri p := by unfold sdv; rw [h]; rfl
theorem sdv_2 {ri dn : Nat → Int32} {r c p q : Nat} (h : bs r c p 2 = some q) : sdv ri dn r c p 2 = dn p := by unfold sdv; rw [h]; rfl
theorem x_recl_in1 {σ : Sg} {k r c p m n f : Nat} {ri dn : Nat → Int32} {R : Int32 → Int32 → Int32 → Sg → Rs} {Q : Int32 → Sg → Prop} (hz : CutOk σ k r c ri dn) (hp : p < r * c) (hm : 1 ≤ m ∧ m < 100) (hn : n < 900) (hk : ∀ υ, Fr (k + 1) (k + 1) σ υ → CutOk υ k r c (if (bs r c p 1).isSome = true then ut ri p (clV (ri p) m n) else ri) dn → Ev (f_X1_reclass_b15 k R f (nI m) (nI (n + (bs r c p 1).isSome.toNat)) (nI p) (nI 2) υ) Q) : Ev (f_X1_reclass_b15 k R (f + 1) (nI m) (nI n) (nI p) (nI 1) σ) Q := by
  have hrc := hz.rc
  have z3 := hz.2.2.2.1
  have z4 := hz.2.2.2.2.1
  rw [f_X1_reclass_b15]
  simp (disch := omega) only [rdN, wrN, rdZ, wrZ, p_put_eq, call_some, nzN, boN, nI_1, nI_add, pk_mul, lit_4, lit_16, le_T, le_F, lt_T, lt_F, eq_T, eq_F, le_T0, le_F0, lt_F0, lt_T0, eq_T0, eq_F0, eqm_F, up_s2, up_n2, Ev_some, nz_0, nz_1, if_true, if_false, reduceIte, and_true, true_and, and_false, false_and, b2_0, b2_1, Bool.true_eq_false, Bool.false_eq_true, not_true_eq_false, not_false_eq_true, show (2 : Int32) = nI 2 from rfl, x_beside hz hp (show 1 < 4 by decide), f_X1_reclass_b68, f_X1_reclass_b62]
  cases hb : bs r c p 1 with
  | none =>
    rw [hb] at hk
    simp (disch := omega) only [rdN, wrN, rdZ, wrZ, p_put_eq, call_some, nzN, boN, nI_1, nI_add, pk_mul, lit_4, lit_16, le_T, le_F, lt_T, lt_F, eq_T, eq_F, le_T0, le_F0, lt_F0, lt_T0, eq_T0, eq_F0, eqm_F, up_s2, up_n2, Ev_some, nz_0, nz_1, if_true, if_false, reduceIte, and_true, true_and, and_false, false_and, b2_0, b2_1, Bool.true_eq_false, Bool.false_eq_true, not_true_eq_false, not_false_eq_true, bsI]
    exact hk σ Fr.refl hz
  | some q =>
    have hq := bs_lt z3 z4 hp (by decide) hb
    rw [hb] at hk
    simp (disch := omega) only [rdN, wrN, rdZ, wrZ, p_put_eq, call_some, nzN, boN, nI_1, nI_add, pk_mul, lit_4, lit_16, le_T, le_F, lt_T, lt_F, eq_T, eq_F, le_T0, le_F0, lt_F0, lt_T0, eq_T0, eq_F0, eqm_F, up_s2, up_n2, Ev_some, nz_0, nz_1, if_true, if_false, reduceIte, and_true, true_and, and_false, false_and, b2_0, b2_1, Bool.true_eq_false, Bool.false_eq_true, not_true_eq_false, not_false_eq_true, bsI, x_sideOf0 hz hp (show 1 < 4 by decide), ecl hm (show n < 1000 by omega), sdv_1 hb]
    have e2 : clV (ri p) m n = if ri p ≤ 0 then -(nI (1 + n % m)) else nI (1 + n % m) := rfl
    by_cases hv : ri p ≤ 0
    · rw [if_pos hv] at e2 ⊢
      refine Ev.call (x_setR hz hp hb) (fun _ υ ⟨a, b⟩ => ?_)
      rw [← e2] at b
      exact hk υ a b
    · rw [if_neg hv] at e2 ⊢
      refine Ev.call (x_setR hz hp hb) (fun _ υ ⟨a, b⟩ => ?_)
      rw [← e2] at b
      exact hk υ a b
theorem x_recl_in2 {σ : Sg} {k r c p m n f : Nat} {ri dn : Nat → Int32} {R : Int32 → Int32 → Int32 → Sg → Rs} {Q : Int32 → Sg → Prop} (hz : CutOk σ k r c ri dn) (hp : p < r * c) (hm : 1 ≤ m ∧ m < 100) (hn : n < 900) (hk : ∀ υ, Fr (k + 1) (k + 1) σ υ → CutOk υ k r c ri (if (bs r c p 2).isSome = true then ut dn p (clV (dn p) m n) else dn) → Ev (R (nI m) (nI (n + (bs r c p 2).isSome.toNat)) (nI (p + 1)) υ) Q) : Ev (f_X1_reclass_b15 k R (f + 1 + 1) (nI m) (nI n) (nI p) (nI 2) σ) Q := by
  have hrc := hz.rc
  have z3 := hz.2.2.2.1
  have z4 := hz.2.2.2.2.1
  rw [f_X1_reclass_b15]
  simp (disch := omega) only [rdN, wrN, rdZ, wrZ, p_put_eq, call_some, nzN, boN, nI_1, nI_add, pk_mul, lit_4, lit_16, le_T, le_F, lt_T, lt_F, eq_T, eq_F, le_T0, le_F0, lt_F0, lt_T0, eq_T0, eq_F0, eqm_F, up_s2, up_n2, Ev_some, nz_0, nz_1, if_true, if_false, reduceIte, and_true, true_and, and_false, false_and, b2_0, b2_1, Bool.true_eq_false, Bool.false_eq_true, not_true_eq_false, not_false_eq_true, show (2 : Int32) = nI 2 from rfl, x_beside hz hp (show 2 < 4 by decide), f_X1_reclass_b68, f_X1_reclass_b62]
  cases hb : bs r c p 2 with
  | none =>
    rw [hb] at hk
    simp (disch := omega) only [rdN, wrN, rdZ, wrZ, p_put_eq, call_some, nzN, boN, nI_1, nI_add, pk_mul, lit_4, lit_16, le_T, le_F, lt_T, lt_F, eq_T, eq_F, le_T0, le_F0, lt_F0, lt_T0, eq_T0, eq_F0, eqm_F, up_s2, up_n2, Ev_some, nz_0, nz_1, if_true, if_false, reduceIte, and_true, true_and, and_false, false_and, b2_0, b2_1, Bool.true_eq_false, Bool.false_eq_true, not_true_eq_false, not_false_eq_true, bsI]
    rw [f_X1_reclass_b15]
    simp (disch := omega) only [rdN, wrN, rdZ, wrZ, p_put_eq, call_some, nzN, boN, nI_1, nI_add, pk_mul, lit_4, lit_16, le_T, le_F, lt_T, lt_F, eq_T, eq_F, le_T0, le_F0, lt_F0, lt_T0, eq_T0, eq_F0, eqm_F, up_s2, up_n2, Ev_some, nz_0, nz_1, if_true, if_false, reduceIte, and_true, true_and, and_false, false_and, b2_0, b2_1, Bool.true_eq_false, Bool.false_eq_true, not_true_eq_false, not_false_eq_true, show (2 : Int32) = nI 2 from rfl]
    exact hk σ Fr.refl hz
  | some q =>
    have hq := bs_lt z3 z4 hp (by decide) hb
    rw [hb] at hk
    simp (disch := omega) only [rdN, wrN, rdZ, wrZ, p_put_eq, call_some, nzN, boN, nI_1, nI_add, pk_mul, lit_4, lit_16, le_T, le_F, lt_T, lt_F, eq_T, eq_F, le_T0, le_F0, lt_F0, lt_T0, eq_T0, eq_F0, eqm_F, up_s2, up_n2, Ev_some, nz_0, nz_1, if_true, if_false, reduceIte, and_true, true_and, and_false, false_and, b2_0, b2_1, Bool.true_eq_false, Bool.false_eq_true, not_true_eq_false, not_false_eq_true, bsI, x_sideOf0 hz hp (show 2 < 4 by decide), ecl hm (show n < 1000 by omega), sdv_2 hb]
    have e2 : clV (dn p) m n = if dn p ≤ 0 then -(nI (1 + n % m)) else nI (1 + n % m) := rfl
    by_cases hv : dn p ≤ 0
    · rw [if_pos hv] at e2 ⊢
      refine Ev.call (x_setD hz hp hb) (fun _ υ ⟨a, b⟩ => ?_)
      rw [← e2] at b
      rw [f_X1_reclass_b15]
      simp (disch := omega) only [rdN, wrN, rdZ, wrZ, p_put_eq, call_some, nzN, boN, nI_1, nI_add, pk_mul, lit_4, lit_16, le_T, le_F, lt_T, lt_F, eq_T, eq_F, le_T0, le_F0, lt_F0, lt_T0, eq_T0, eq_F0, eqm_F, up_s2, up_n2, Ev_some, nz_0, nz_1, if_true, if_false, reduceIte, and_true, true_and, and_false, false_and, b2_0, b2_1, Bool.true_eq_false, Bool.false_eq_true, not_true_eq_false, not_false_eq_true, show (2 : Int32) = nI 2 from rfl]
      exact hk υ a b
    · rw [if_neg hv] at e2 ⊢
      refine Ev.call (x_setD hz hp hb) (fun _ υ ⟨a, b⟩ => ?_)
      rw [← e2] at b
      rw [f_X1_reclass_b15]
      simp (disch := omega) only [rdN, wrN, rdZ, wrZ, p_put_eq, call_some, nzN, boN, nI_1, nI_add, pk_mul, lit_4, lit_16, le_T, le_F, lt_T, lt_F, eq_T, eq_F, le_T0, le_F0, lt_F0, lt_T0, eq_T0, eq_F0, eqm_F, up_s2, up_n2, Ev_some, nz_0, nz_1, if_true, if_false, reduceIte, and_true, true_and, and_false, false_and, b2_0, b2_1, Bool.true_eq_false, Bool.false_eq_true, not_true_eq_false, not_false_eq_true, show (2 : Int32) = nI 2 from rfl]
      exact hk υ a b
theorem isSome_nat {o : Option Nat} : o.isSome.toNat ≤ 1 := by cases o <;> simp
theorem x_reclass_b4 {σ0 : Sg} {k r c m : Nat} {F : (Nat → Int32) × (Nat → Int32)} (hm : 1 ≤ m ∧ m < 100) : ∀ (f p n : Nat) (σ : Sg) (ri dn : Nat → Int32), CutOk σ k r c ri dn → Fr (k + 1) (k + 1) σ0 σ → p ≤ r * c → n ≤ 2 * p → r * c - p < f → rcl m r c (r * c - p) p n ri dn = F → Ev (f_X1_reclass_b4 k f (nI m) (nI n) (nI p) σ) (fun _ υ => Fr (k + 1) (k + 1) σ0 υ ∧ CutOk υ k r c F.1 F.2)
  | 0, _, _, _, _, _, _, _, _, _, h, _ => absurd h (Nat.not_lt_zero _)
  | f + 1, p, n, σ, ri, dn, hz, hf, hp, hn, h, hF => by
    have hrc := hz.rc
    rw [f_X1_reclass_b4, hz.2.2.1]
    rcases Nat.lt_or_ge p (r * c) with q | q
    · simp (disch := omega) only [rdN, wrN, rdZ, wrZ, p_put_eq, call_some, nzN, boN, nI_1, nI_add, pk_mul, lit_4, lit_16, le_T, le_F, lt_T, lt_F, eq_T, eq_F, le_T0, le_F0, lt_F0, lt_T0, eq_T0, eq_F0, eqm_F, up_s2, up_n2, Ev_some, nz_0, nz_1, if_true, if_false, reduceIte, and_true, true_and, and_false, false_and, b2_0, b2_1, Bool.true_eq_false, Bool.false_eq_true, not_true_eq_false, not_false_eq_true, show (1 : Int32) = nI 1 from rfl]
      refine x_recl_in1 (f := 99999999) hz q hm (by omega) (fun υ f1 z1 => ?_)
      have n1 := isSome_nat (o := bs r c p 1)
      have n2 := isSome_nat (o := bs r c p 2)
      refine x_recl_in2 (f := 99999997) z1 q hm (by omega) (fun φ f2 z2 => ?_)
      refine x_reclass_b4 hm f (p + 1) _ φ _ _ z2 ((hf.trans f1).trans f2) (by omega) (by omega) (by omega) ?_
      rw [← hF, show r * c - p = (r * c - (p + 1)) + 1 by omega, rcl]
    · simp (disch := omega) only [rdN, wrN, rdZ, wrZ, p_put_eq, call_some, nzN, boN, nI_1, nI_add, pk_mul, lit_4, lit_16, le_T, le_F, lt_T, lt_F, eq_T, eq_F, le_T0, le_F0, lt_F0, lt_T0, eq_T0, eq_F0, eqm_F, up_s2, up_n2, Ev_some, nz_0, nz_1, if_true, if_false, reduceIte, and_true, true_and, and_false, false_and, b2_0, b2_1, Bool.true_eq_false, Bool.false_eq_true, not_true_eq_false, not_false_eq_true]
      rw [show r * c - p = 0 by omega] at hF
      rw [← hF]
      exact ⟨hf, hz⟩
theorem x_reclass {σ : Sg} {k r c m : Nat} {ri dn : Nat → Int32} (hm : 1 ≤ m ∧ m < 100) (hz : CutOk σ k r c ri dn) : Ev (f_X1_reclass k (nI m) σ) (fun _ υ => Fr (k + 1) (k + 1) σ υ ∧ CutOk υ k r c (rcl m r c (r * c) 0 0 ri dn).1 (rcl m r c (r * c) 0 0 ri dn).2) := by
  have hrc := hz.rc
  exact x_reclass_b4 hm fu 0 0 σ ri dn hz Fr.refl (Nat.zero_le _) (Nat.zero_le _) (fu_lt (by omega)) rfl
