/-! the parts of the relation, each with what it reads; refusals; cells, people, turns -/
def IG (i : Nat) (σ τ : Sg) : Prop := ∃ r c, GOk (gM τ) r c (60 * i) ∧ GameOk σ 1 (gM τ) r c ∧ (σ 59 2 = 0 ∨ (σ 59 2 = 1 ∧ Known σ 59 r c (gM τ 0) (gM τ 1)))
def II (i : Nat) (σ τ : Sg) : Prop := τ 103 25 = σ 0 11 ∧ (σ 0 11 = 0 ∨ (σ 0 11 = 1 ∧ ∃ r c, GOk (gK τ 0) r c (60 * i) ∧ GameOk σ 33 (gK τ 0) r c))
def IT (σ τ : Sg) : Prop := ∃ n, n ≤ 64 ∧ τ 103 21 = nI n ∧ σ 55 1 = nI n ∧ ∀ j, j < n → ∃ b, b < 256 ∧ τ 115 j = nI b ∧ σ 56 j = nI b
def ID (σ τ : Sg) : Prop := ∃ n, n ≤ 16 ∧ τ 103 39 = nI n ∧ σ 57 1 = nI n ∧ ∀ j, j < n → σ 58 j = τ 126 j
def IR (σ τ : Sg) : Prop := ∀ j, j < 7 → σ 102 j = τ 104 j
theorem Inv.iff {i : Nat} {σ τ : Sg} : Inv i σ τ ↔ IG i σ τ ∧ II i σ τ ∧ IT σ τ ∧ ID σ τ ∧ IR σ τ := Iff.rfl
theorem j7 {j : Nat} (h : j < 7) : j = 0 ∨ j = 1 ∨ j = 2 ∨ j = 3 ∨ j = 4 ∨ j = 5 ∨ j = 6 := by omega
theorem gM_fr {τ υ : Sg} (h : ∀ a, 105 ≤ a → a ≤ 114 → υ a = τ a) (h2 : ∀ b, 11 ≤ b → b ≤ 13 → υ 103 b = τ 103 b) : EqA (gM υ) (gM τ) := by
  refine ⟨fun j hj i hi => ?_, fun j hj hj2 i hi => ?_, fun i hi => ?_⟩
  · rcases j7 hj with rfl | rfl | rfl | rfl | rfl | rfl | rfl <;> exact congrFun (h _ (by decide) (by decide)) i
  · rcases (show j = 7 ∨ j = 8 ∨ j = 9 by omega) with rfl | rfl | rfl <;> exact congrFun (h _ (by decide) (by decide)) i
  · exact h2 (11 + i) (by omega) (by omega)
theorem IG.fr {i : Nat} {σ σ' τ τ' : Sg} (h : IG i σ τ) (e1 : ∀ a, 2 ≤ a → a ≤ 16 → σ' a = σ a) (e2 : σ' 59 = σ 59 ∧ σ' 67 = σ 67 ∧ σ' 68 = σ 68) (e3 : EqA (gM τ') (gM τ)) : IG i σ' τ' := by
  obtain ⟨r, c, g1, g2, g3⟩ := h
  refine ⟨r, c, g1.cg e3, (g2.cg e3).fr (fun j h1 h2 => e1 _ (by omega) (by omega)), ?_⟩
  rw [e2.1]
  rcases g3 with e | ⟨e, k⟩
  · exact .inl e
  · refine .inr ⟨e, ?_⟩
    unfold Known CS
    rw [allW_cg g1.1.2.2.1 g1.1.2.2.2 (fun q hq => ⟨e3.1 0 (by decide) q hq, e3.1 1 (by decide) q hq⟩), e2.1, show σ' (59 + 8) = σ (59 + 8) from e2.2.1, show σ' (59 + 9) = σ (59 + 9) from e2.2.2]
    exact k
theorem II.fr {i : Nat} {σ σ' τ τ' : Sg} (h : II i σ τ) (e1 : ∀ a, 34 ≤ a → a ≤ 48 → σ' a = σ a) (e2 : σ' 0 11 = σ 0 11) (e3 : τ' 103 25 = τ 103 25) (e4 : ∀ b, b < 200 → τ' 121 b = τ 121 b) : II i σ' τ' := by
  obtain ⟨i1, i2⟩ := h
  unfold II
  rw [e2, e3]
  refine ⟨i1, ?_⟩
  rcases i2 with e | ⟨e, r', c', k1, k2⟩
  · exact .inl e
  · exact .inr ⟨e, r', c', k1.cg (gK_cg e4), (k2.cg (gK_cg e4)).fr (fun j h1 h2 => e1 _ (by omega) (by omega))⟩
theorem IT.fr {σ σ' τ τ' : Sg} (h : IT σ τ) (e1 : σ' 55 1 = σ 55 1) (e2 : σ' 56 = σ 56) (e3 : τ' 103 21 = τ 103 21) (e4 : τ' 115 = τ 115) : IT σ' τ' := by
  unfold IT
  rw [e1, e2, e3, e4]
  exact h
theorem ID.fr {σ σ' τ τ' : Sg} (h : ID σ τ) (e1 : σ' 57 1 = σ 57 1) (e2 : σ' 58 = σ 58) (e3 : τ' 103 39 = τ 103 39) (e4 : τ' 126 = τ 126) : ID σ' τ' := by
  unfold ID
  rw [e1, e2, e3, e4]
  exact h
theorem IR.fr {σ σ' τ τ' : Sg} (h : IR σ τ) (e1 : σ' 102 = σ 102) (e2 : τ' 104 = τ 104) : IR σ' τ' := by
  unfold IR
  rw [e1, e2]
  exact h
/-- both answer alike, and what holds between them holds on -/
def Rl (i : Nat) (f g : Rs) : Prop := ∃ (v : Int32) (σ' τ' : Sg), f = some (v, σ') ∧ g = some (v, τ') ∧ Inv i σ' τ'
theorem Rl.of {i : Nat} {f g : Rs} {v : Int32} {σ' τ' : Sg} (h1 : f = some (v, σ')) (h2 : g = some (v, τ')) (h : Inv i σ' τ') : Rl i f g := ⟨v, σ', τ', h1, h2, h⟩
theorem r_ref {i j : Nat} {σ τ : Sg} {x : Int32} (h : Inv i σ τ) (hj : j < 7) (hx : -x = nI j) : ∃ σ' τ', f_X10_refuse 0 x σ = some (x, σ') ∧ f_X11_no 103 x τ = some (x, τ') ∧ f_X11_lower 103 x τ = some (1000000000 - x, τ') ∧ Inv i σ' τ' := by
  obtain ⟨h1, h2, h3, h4, h5⟩ := Inv.iff.mp h
  refine ⟨sg_up σ 102 j (σ 102 j + 1), sg_up τ 104 j (τ 104 j + 1), ?_, ?_, ?_, Inv.iff.mpr ⟨?_, ?_, ?_, ?_, fun l hl => ?_⟩⟩
  · unfold f_X10_refuse
    rw [hx]
    simp (disch := omega) only [rdN, wrN, rdZ, wrZ, p_put_eq, call_some, nzN, boN, nI_1, nI_add, pk_mul, lit_4, lit_16, le_T, le_F, lt_T, lt_F, eq_T, eq_F, le_T0, le_F0, lt_F0, lt_T0, eq_T0, eq_F0, eqm_F, up_s2, up_n2, Ev_some, nz_0, nz_1, if_true, if_false, reduceIte, and_true, true_and, and_false, false_and, b2_0, b2_1, Bool.true_eq_false, Bool.false_eq_true, not_true_eq_false, not_false_eq_true]
  · unfold f_X11_no
    rw [hx]
    simp (disch := omega) only [rdN, wrN, rdZ, wrZ, p_put_eq, call_some, nzN, boN, nI_1, nI_add, pk_mul, lit_4, lit_16, le_T, le_F, lt_T, lt_F, eq_T, eq_F, le_T0, le_F0, lt_F0, lt_T0, eq_T0, eq_F0, eqm_F, up_s2, up_n2, Ev_some, nz_0, nz_1, if_true, if_false, reduceIte, and_true, true_and, and_false, false_and, b2_0, b2_1, Bool.true_eq_false, Bool.false_eq_true, not_true_eq_false, not_false_eq_true]
  · unfold f_X11_lower
    rw [hx]
    simp (disch := omega) only [rdN, wrN, rdZ, wrZ, p_put_eq, call_some, nzN, boN, nI_1, nI_add, pk_mul, lit_4, lit_16, le_T, le_F, lt_T, lt_F, eq_T, eq_F, le_T0, le_F0, lt_F0, lt_T0, eq_T0, eq_F0, eqm_F, up_s2, up_n2, Ev_some, nz_0, nz_1, if_true, if_false, reduceIte, and_true, true_and, and_false, false_and, b2_0, b2_1, Bool.true_eq_false, Bool.false_eq_true, not_true_eq_false, not_false_eq_true]
  · exact h1.fr (fun a _ _ => up_a (by omega)) ⟨up_a (by decide), up_a (by decide), up_a (by decide)⟩ (gM_fr (fun a _ _ => up_a (by omega)) (fun b _ _ => up_n2 (by omega)))
  · exact h2.fr (fun a _ _ => up_a (by omega)) (up_n2 (by omega)) (up_n2 (by omega)) (fun b _ => up_n2 (by omega))
  · exact h3.fr (up_n2 (by omega)) (up_a (by omega)) (up_n2 (by omega)) (up_a (by omega))
  · exact h4.fr (up_n2 (by omega)) (up_a (by omega)) (up_n2 (by omega)) (up_a (by omega))
  · by_cases e : l = j
    · subst e
      simp (disch := omega) only [rdN, wrN, rdZ, wrZ, p_put_eq, call_some, nzN, boN, nI_1, nI_add, pk_mul, lit_4, lit_16, le_T, le_F, lt_T, lt_F, eq_T, eq_F, le_T0, le_F0, lt_F0, lt_T0, eq_T0, eq_F0, eqm_F, up_s2, up_n2, Ev_some, nz_0, nz_1, if_true, if_false, reduceIte, and_true, true_and, and_false, false_and, b2_0, b2_1, Bool.true_eq_false, Bool.false_eq_true, not_true_eq_false, not_false_eq_true, h5 l hl]
    · simp (disch := omega) only [rdN, wrN, rdZ, wrZ, p_put_eq, call_some, nzN, boN, nI_1, nI_add, pk_mul, lit_4, lit_16, le_T, le_F, lt_T, lt_F, eq_T, eq_F, le_T0, le_F0, lt_F0, lt_T0, eq_T0, eq_F0, eqm_F, up_s2, up_n2, Ev_some, nz_0, nz_1, if_true, if_false, reduceIte, and_true, true_and, and_false, false_and, b2_0, b2_1, Bool.true_eq_false, Bool.false_eq_true, not_true_eq_false, not_false_eq_true, h5 l hl]
/-- a refusal told plainly -/
theorem r_no {i j : Nat} {σ τ : Sg} {x : Int32} (h : Inv i σ τ) (hj : j < 7) (hx : -x = nI j) : Rl i (p_call (f_X10_refuse 0 x σ) (fun v s => some (v, s))) (p_call (f_X11_no 103 x τ) (fun v s => some (v, s))) := by
  obtain ⟨σ', τ', e1, e2, -, e4⟩ := r_ref h hj hx
  rw [e1, e2]
  exact ⟨_, _, _, rfl, rfl, e4⟩
theorem r_lo {i j : Nat} {σ τ : Sg} {x : Int32} (h : Inv i σ τ) (hj : j < 7) (hx : -x = nI j) : Rl i (p_call (f_X10_refuse 0 x σ) (fun v s => some (1000000000 - v, s))) (p_call (f_X11_lower 103 x τ) (fun v s => some (v, s))) := by
  obtain ⟨σ', τ', e1, -, e3, e4⟩ := r_ref h hj hx
  rw [e1, e3]
  exact ⟨_, _, _, rfl, rfl, e4⟩
theorem n1 : -(-1 : Int32) = nI 1 := by decide
theorem n2 : -(-2 : Int32) = nI 2 := by decide
theorem n3 : -(-3 : Int32) = nI 3 := by decide
theorem n4 : -(-4 : Int32) = nI 4 := by decide
theorem n6 : -(-6 : Int32) = nI 6 := by decide
/-- a number of 0 .. m - 1 -/
def inB (m : Nat) (x : Int32) : Bool := decide (0 ≤ x) && decide (x < nI m)
theorem inB_of {m : Nat} {x : Int32} (hm : m < 2 ^ 31) (h : inB m x = true) : ∃ p, p < m ∧ x = nI p := by
  unfold inB at h
  rw [Bool.and_eq_true] at h
  obtain ⟨j, hj, e⟩ := nI_of (Int32.not_lt.mpr (of_decide_eq_true h.1))
  have := of_decide_eq_true h.2
  rw [e, nI_ltI hj hm] at this
  exact ⟨j, this, e⟩
theorem inB_nI {m p : Nat} (hm : m < 2 ^ 31) (hp : p < m) : inB m (nI p) = true := by
  unfold inB
  rw [decide_eq_true (nI_pos' (by omega)), decide_eq_true (nI_lt hp hm)]
  rfl
theorem le_lt (a : Nat) {x : Int32} (ha : a + 1 < 2 ^ 31) : (x ≤ nI a) = (x < nI (a + 1)) := propext (by
  rw [Int32.le_iff_toInt_le, Int32.lt_iff_toInt_lt, nI_toInt (by omega), nI_toInt (by omega)]
  omega)
theorem y_in {τ : Sg} {x : Int32} (a : Nat) (ha : a + 1 < 2 ^ 31) : f_X11_isIn x 0 (nI a) τ = some (b2 (inB (a + 1) x), τ) := by
  rw [y_isIn]
  unfold inB
  simp only [le_lt a ha]
theorem x_two {σ : Sg} {x : Int32} {m : Nat} {A B : Rs} : (if x < 0 then A else if nI m ≤ x then A else B) = if inB m x = true then B else A := by
  unfold inB
  by_cases h1 : x < 0
  · rw [if_pos h1, decide_eq_false (Int32.not_le.mpr h1)]
    rfl
  · rw [if_neg h1, decide_eq_true (Int32.not_lt.mp h1), Bool.true_and]
    by_cases h2 : nI m ≤ x
    · rw [if_pos h2, if_neg (by rw [decide_eq_true_eq]; exact Int32.not_lt.mpr h2)]
    · rw [if_neg h2, if_pos (by rw [decide_eq_true_eq]; exact Int32.not_le.mp h2)]
theorem x_isIn {σ : Sg} {x : Int32} {m : Nat} : (if x < 0 then some ((0 : Int32), σ) else if nI m ≤ x then some (0, σ) else some (1, σ)) = some (b2 (inB m x), σ) := by
  rw [x_two (σ := σ)]
  cases inB m x <;> rfl
section AR
variable {i r c : Nat} {σ τ : Sg}
theorem GOk.sz (h : GOk (gM τ) r c (60 * i)) : Sz τ 103 r c := h.1
theorem GOk.bd (h : GOk (gM τ) r c (60 * i)) : Bd τ 103 r c := fun q hq => by
  have hrc := h.rc
  rcases h.2.2.1 q (by omega) with e | ⟨-, p, t, hp, ht, e1, e2⟩
  · exact .inl e
  · exact .inr ⟨⟨p, hp, e1⟩, t, ht, e2⟩
theorem w_isCell {x : Int32} (h : GameOk σ 1 (gM τ) r c) : f_X10_isCell 0 x σ = some (b2 (inB (r * c) x), σ) := by
  unfold f_X10_isCell
  show (if x < 0 then some ((0 : Int32), σ) else if σ 2 2 ≤ x then some (0, σ) else some (1, σ)) = _
  rw [show σ 2 2 = nI (r * c) from h.1.n]
  exact x_isIn
theorem v_isCell {x : Int32} (h : GOk (gM τ) r c (60 * i)) : f_X11_isCell 103 x τ = some (b2 (inB (r * c) x), τ) := y_isCell h.sz
theorem w_isTurn {x : Int32} : f_X10_isTurn 0 x σ = some (b2 (inB 4 x), σ) := by
  unfold f_X10_isTurn
  exact x_isIn (m := 4)
theorem w_isRule {x : Int32} : f_X10_isRule 0 x σ = some (b2 (inB 5 x), σ) := by
  unfold f_X10_isRule
  exact x_isIn (m := 5)
theorem v_turn {x : Int32} : f_X11_isIn x 0 3 τ = some (b2 (inB 4 x), τ) := y_in 3 (by decide)
theorem v_rule {x : Int32} : f_X11_isIn x 0 4 τ = some (b2 (inB 5 x), τ) := y_in 4 (by decide)
theorem v_two {x : Int32} : f_X11_isIn x 0 1 τ = some (b2 (inB 2 x), τ) := y_in 1 (by decide)
theorem v_three {x : Int32} : f_X11_isIn x 0 2 τ = some (b2 (inB 3 x), τ) := y_in 2 (by decide)
/-- how many people there are -/
theorem people (g1 : GOk (gM τ) r c (60 * i)) (g2 : GameOk σ 1 (gM τ) r c) : ∃ n, n ≤ 6 ∧ τ 103 13 = nI n ∧ σ 13 0 = nI n ∧ ∀ w, w < n → (∃ d, d < 5 ∧ τ 112 w = nI d) ∧ (∃ v, 1 ≤ v ∧ v ≤ 9 ∧ τ 113 w = nI v) ∧ ∃ s, s ≤ 60 * i ∧ τ 114 w = nI s := by
  obtain ⟨-, -, -, -, -, n, n1, n2, n3⟩ := g1
  exact ⟨n, n1, n2, g2.2.2.2.2.1.trans n2, n3⟩
theorem w_isPerson {x : Int32} {n : Nat} (h : σ 13 0 = nI n) : f_X10_isPerson 0 x σ = some (b2 (inB n x), σ) := by
  unfold f_X10_isPerson
  show (if x < 0 then some ((0 : Int32), σ) else if σ 13 0 ≤ x then some (0, σ) else some (1, σ)) = _
  rw [h]
  exact x_isIn
theorem v_isPerson {x : Int32} {n : Nat} (h : τ 103 13 = nI n) : f_X11_isPerson 103 x τ = some (b2 (inB n x), τ) := by
  rw [y_isPerson, h]
  rfl
end AR
