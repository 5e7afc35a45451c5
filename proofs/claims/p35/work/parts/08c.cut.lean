/-! the class's Cut: closed forms -/
theorem x_beside {σ : Sg} {k r c p s : Nat} {ri dn : Nat → Int32} (h : CutOk σ k r c ri dn) (hp : p < r * c) (hs : s < 4) : f_X1_beside k (nI p) (nI s) σ = some (bsI (bs r c p s), σ) := (c_beside h hp hs).eq
theorem x_sideOf {σ : Sg} {k r c p s t : Nat} {ri dn : Nat → Int32} (h : CutOk σ k r c ri dn) (hp : p < r * c) (hs : s < 4) (ht : t < 4) : f_X1_sideOf k (nI p) (nI t) (nI s) σ = some (sdv ri dn r c p ((s + 4 - t) % 4), σ) := (c_sideOf h hp hs ht).eq
theorem x_sideOf0 {σ : Sg} {k r c p s : Nat} {ri dn : Nat → Int32} (h : CutOk σ k r c ri dn) (hp : p < r * c) (hs : s < 4) : f_X1_sideOf k (nI p) 0 (nI s) σ = some (sdv ri dn r c p s, σ) := by
  have := x_sideOf (t := 0) h hp hs (by decide)
  rw [show (s + 4 - 0) % 4 = s by omega] at this
  exact this
theorem x_suitsRim {σ : Sg} {k r c p t q : Nat} {ri dn : Nat → Int32} (hz : CutOk σ k r c ri dn) (hp : p < r * c) (ht : t < 4) (hq : q < r * c) : f_X1_suitsRim k (nI p) (nI t) (nI q) σ = some (b2 (atRim ri dn r c p t q), σ) := (c_suitsRim hz hp ht hq).eq
/-- what lies on the class's board at k: nothing (-1), or a piece that is there in a turn -/
def BdX (σ : Sg) (k r c : Nat) : Prop := ∀ q, q < r * c → σ (k + 1) q = -1 ∨ ((∃ p, p < r * c ∧ σ (k + 1) q = nI p) ∧ ∃ t, t < 4 ∧ σ (k + 2) q = nI t)
/-- side s goes with what lies there, the same piece too -/
def nbX (ri dn pc tn : Nat → Int32) (r c p t q s : Nat) : Bool := match bs r c q s with
  | none => true
  | some o => !(fl pc o) || decide (sdv ri dn r c p ((s + 4 - t) % 4) + sdv ri dn r c (pc o).toNatClampNeg (((s + 2) % 4 + 4 - (tn o).toNatClampNeg) % 4) = 0)
def nbsX (ri dn pc tn : Nat → Int32) (r c p t q : Nat) : Bool := (ff (fun s => !(nbX ri dn pc tn r c p t q s)) 0 4).isNone
theorem x_suitsN {σ : Sg} {k k1 r c p t q : Nat} {ri dn : Nat → Int32} (hz : CutOk σ k r c ri dn) (hb : BdX σ k1 r c) (hp : p < r * c) (ht : t < 4) (hq : q < r * c) : f_X1_suitsNeighbours k k1 (nI p) (nI t) (nI q) σ = some (b2 (nbsX ri dn (σ (k1 + 1)) (σ (k1 + 2)) r c p t q), σ) := by
  have hrc := hz.rc
  have z3 := hz.2.2.2.1
  have z4 := hz.2.2.2.2.1
  have h := lp_ff (L := fun n s => f_X1_suitsNeighbours_b3 k k1 n (nI p) (nI t) (nI q) (nI s) σ) (m := 4) (p := fun s => !(nbX ri dn (σ (k1 + 1)) (σ (k1 + 2)) r c p t q s)) (E := some (1, σ)) (F := fun _ => some (0, σ)) (fun n => by
    show f_X1_suitsNeighbours_b3 k k1 (n + 1) (nI p) (nI t) (nI q) (nI 4) σ = _
    simp (disch := omega) only [rdN, wrN, rdZ, wrZ, p_put_eq, call_some, nzN, boN, nI_1, nI_add, pk_mul, lit_4, lit_16, le_T, le_F, lt_T, lt_F, eq_T, eq_F, le_T0, le_F0, lt_F0, lt_T0, eq_T0, eq_F0, eqm_F, up_s2, up_n2, Ev_some, nz_0, nz_1, if_true, if_false, reduceIte, and_true, true_and, and_false, false_and, b2_0, b2_1, Bool.true_eq_false, Bool.false_eq_true, not_true_eq_false, not_false_eq_true, f_X1_suitsNeighbours_b3]) (fun n s hs => by
    show f_X1_suitsNeighbours_b3 k k1 (n + 1) (nI p) (nI t) (nI q) (nI s) σ = if _ then _ else f_X1_suitsNeighbours_b3 k k1 n (nI p) (nI t) (nI q) (nI (s + 1)) σ
    simp (disch := omega) only [rdN, wrN, rdZ, wrZ, p_put_eq, call_some, nzN, boN, nI_1, nI_add, pk_mul, lit_4, lit_16, le_T, le_F, lt_T, lt_F, eq_T, eq_F, le_T0, le_F0, lt_F0, lt_T0, eq_T0, eq_F0, eqm_F, up_s2, up_n2, Ev_some, nz_0, nz_1, if_true, if_false, reduceIte, and_true, true_and, and_false, false_and, b2_0, b2_1, Bool.true_eq_false, Bool.false_eq_true, not_true_eq_false, not_false_eq_true, f_X1_suitsNeighbours_b3, x_beside hz hq hs, f_X1_suitsNeighbours_b79]
    unfold nbX
    cases hn : bs r c q s with
    | none => simp [bsI]
    | some o =>
      have ho := bs_lt z3 z4 hq hs hn
      have ho' : o < 16 := by omega
      have ho2 : o < 2 ^ 31 := by omega
      simp (disch := omega) only [rdN, wrN, rdZ, wrZ, p_put_eq, call_some, nzN, boN, nI_1, nI_add, pk_mul, lit_4, lit_16, le_T, le_F, lt_T, lt_F, eq_T, eq_F, le_T0, le_F0, lt_F0, lt_T0, eq_T0, eq_F0, eqm_F, up_s2, up_n2, Ev_some, nz_0, nz_1, if_true, if_false, reduceIte, and_true, true_and, and_false, false_and, b2_0, b2_1, Bool.true_eq_false, Bool.false_eq_true, not_true_eq_false, not_false_eq_true, bsI, x_isFilled ho']
      rcases hb o ho with h9 | ⟨⟨p2, hp2, e3⟩, t2, ht2, e4⟩
      · simp [fl, h9]
      · have e5 : fl (σ (k1 + 1)) o = true := by
          simp [fl, e3, nI_nm1 (show p2 < 2 ^ 31 by omega)]
        have e6 : (nI p2).toNatClampNeg = p2 := nI_clamp (by omega)
        have e7 : (nI t2).toNatClampNeg = t2 := nI_clamp (by omega)
        have e8 : nI s + 2 - (nI s + 2) / nI 4 * nI 4 = nI ((s + 2) % 4) := opp_tab s hs
        simp (disch := omega) only [rdN, wrN, rdZ, wrZ, p_put_eq, call_some, nzN, boN, nI_1, nI_add, pk_mul, lit_4, lit_16, le_T, le_F, lt_T, lt_F, eq_T, eq_F, le_T0, le_F0, lt_F0, lt_T0, eq_T0, eq_F0, eqm_F, up_s2, up_n2, Ev_some, nz_0, nz_1, if_true, if_false, reduceIte, and_true, true_and, and_false, false_and, b2_0, b2_1, Bool.true_eq_false, Bool.false_eq_true, not_true_eq_false, not_false_eq_true, e5, e3, e4, e8, x_sideOf hz hp2 (Nat.mod_lt _ (by decide)) ht2, x_sideOf hz hp hs ht, e6, e7]
        by_cases hv : sdv ri dn r c p ((s + 4 - t) % 4) + sdv ri dn r c p2 (((s + 2) % 4 + 4 - t2) % 4) = 0
        · simp [hv]
        · simp [hv]) fu 0 (by decide) (fu_lt (by decide))
  unfold f_X1_suitsNeighbours nbsX
  refine Eq.trans h ?_
  cases ff (fun s => !(nbX ri dn (σ (k1 + 1)) (σ (k1 + 2)) r c p t q s)) 0 (4 - 0) <;> rfl
/-- the class's fit -/
def fitX (ri dn pc tn : Nat → Int32) (r c p t q : Nat) : Bool := atRim ri dn r c p t q && nbsX ri dn pc tn r c p t q
theorem x_isFit {σ : Sg} {k k1 r c p t q : Nat} {ri dn : Nat → Int32} (hz : CutOk σ k r c ri dn) (hb : BdX σ k1 r c) (hp : p < r * c) (ht : t < 4) (hq : q < r * c) : f_X1_isFit k k1 (nI p) (nI t) (nI q) σ = some (b2 (fitX ri dn (σ (k1 + 1)) (σ (k1 + 2)) r c p t q), σ) := by
  unfold f_X1_isFit fitX
  simp (disch := omega) only [rdN, wrN, rdZ, wrZ, p_put_eq, call_some, nzN, boN, nI_1, nI_add, pk_mul, lit_4, lit_16, le_T, le_F, lt_T, lt_F, eq_T, eq_F, le_T0, le_F0, lt_F0, lt_T0, eq_T0, eq_F0, eqm_F, up_s2, up_n2, Ev_some, nz_0, nz_1, if_true, if_false, reduceIte, and_true, true_and, and_false, false_and, b2_0, b2_1, Bool.true_eq_false, Bool.false_eq_true, not_true_eq_false, not_false_eq_true, x_suitsRim hz hp ht hq, x_suitsN hz hb hp ht hq]
  cases atRim ri dn r c p t q <;> cases nbsX ri dn (σ (k1 + 1)) (σ (k1 + 2)) r c p t q <;> rfl
def kindX (ri dn pc tn : Nat → Int32) (r c p t q : Nat) : Int32 := if atRim ri dn r c p t q = true then (if nbsX ri dn pc tn r c p t q = true then (if p = q ∧ t = 0 then 1 else 2) else 4) else 3
theorem x_kindOf {σ : Sg} {k k1 r c p t q : Nat} {ri dn : Nat → Int32} (hz : CutOk σ k r c ri dn) (hb : BdX σ k1 r c) (hp : p < r * c) (ht : t < 4) (hq : q < r * c) : f_X1_kindOf k k1 (nI p) (nI t) (nI q) σ = some (kindX ri dn (σ (k1 + 1)) (σ (k1 + 2)) r c p t q, σ) := by
  have hrc := hz.rc
  unfold f_X1_kindOf kindX
  simp (disch := omega) only [rdN, wrN, rdZ, wrZ, p_put_eq, call_some, nzN, boN, nI_1, nI_add, pk_mul, lit_4, lit_16, le_T, le_F, lt_T, lt_F, eq_T, eq_F, le_T0, le_F0, lt_F0, lt_T0, eq_T0, eq_F0, eqm_F, up_s2, up_n2, Ev_some, nz_0, nz_1, if_true, if_false, reduceIte, and_true, true_and, and_false, false_and, b2_0, b2_1, Bool.true_eq_false, Bool.false_eq_true, not_true_eq_false, not_false_eq_true, x_suitsRim hz hp ht hq, x_suitsN hz hb hp ht hq]
  have e1 : (nI p = nI q) = (p = q) := propext (nI_eq (by omega) (by omega))
  have e2 : (nI t = 0) = (t = 0) := propext (nI_s4 t ht 0 (by decide))
  simp only [e1, e2]
  cases atRim ri dn r c p t q <;> cases nbsX ri dn (σ (k1 + 1)) (σ (k1 + 2)) r c p t q <;> by_cases hpq : p = q <;> by_cases h0 : t = 0 <;> simp [hpq, h0]
theorem ff4 {p : Nat → Bool} : (ff (fun s => !(p s)) 0 4).isNone = (List.range' 0 4).all p := by
  simp only [ff, List.range', List.all_cons, List.all_nil]
  by_cases h0 : p 0 = true <;> by_cases h1 : p 1 = true <;> by_cases h2 : p 2 = true <;> by_cases h3 : p 3 = true <;> simp [h0, h1, h2, h3]
/-- nothing on the board is p: the class's fit is the reference's -/
theorem fitX_eq {ri dn pc pc' tn : Nat → Int32} {r c p t q : Nat} (h1 : 2 ≤ r ∧ r < 5) (h2 : 2 ≤ c ∧ c < 5) (hq : q < r * c) (hv : ∀ o, o < r * c → (pc' o = -1 ↔ pc o < 0 ∨ pc o = nI p) ∧ (pc' o = -1 ∨ pc' o = pc o)) : fitX ri dn pc' tn r c p t q = fit ri dn pc tn r c p t q := by
  unfold fitX fit nbsX
  rw [ff4]
  congr 1
  have key : ∀ s, s < 4 → nbX ri dn pc' tn r c p t q s = nbOk ri dn pc tn r c p t q s := by
    intro s hs
    unfold nbX nbOk
    cases hn : bs r c q s with
    | none => rfl
    | some o =>
      obtain ⟨a, b⟩ := hv o (bs_lt h1 h2 hq hs hn)
      show (!(fl pc' o) || _) = (decide (pc o < 0) || decide (pc o = nI p) || _)
      rw [← Bool.decide_or]
      unfold fl
      by_cases hc : pc' o = -1
      · simp [hc, a.mp hc]
      · rw [decide_eq_false hc, decide_eq_false (fun u => hc (a.mpr u)), (b.resolve_left hc)]
        rfl
  simp only [List.range', List.all_cons, List.all_nil]
  rw [key 0 (by decide), key (0 + 1) (by decide), key (0 + 1 + 1) (by decide), key (0 + 1 + 1 + 1) (by decide)]
theorem kindX_eq {ri dn pc tn : Nat → Int32} {r c p t q : Nat} : kindX ri dn pc tn r c p t q = (if fitX ri dn pc tn r c p t q = true then (if p = q ∧ t = 0 then 1 else 2) else (if atRim ri dn r c p t q = true then 4 else 3)) := by
  unfold kindX fitX
  cases atRim ri dn r c p t q <;> cases nbsX ri dn pc tn r c p t q <;> rfl
/-- how many nubs a piece has -/
def nubV (ri dn : Nat → Int32) (r c p : Nat) : Int32 := sm (fun s => b2 (!decide (sdv ri dn r c p s ≤ 0))) 0 4
theorem x_nubsOf {σ : Sg} {k r c p : Nat} {ri dn : Nat → Int32} (hz : CutOk σ k r c ri dn) (hp : p < r * c) : f_X1_nubsOf k (nI p) σ = some (nubV ri dn r c p, σ) := by
  have hrc := hz.rc
  have h := lp_sm (L := fun n i a => f_X1_nubsOf_b4 k n (nI p) a (nI i) σ) (m := 4) (g := fun s => b2 (!decide (sdv ri dn r c p s ≤ 0))) (E := fun a => some (a, σ)) (fun n a => by
    show f_X1_nubsOf_b4 k (n + 1) (nI p) a (nI 4) σ = _
    simp (disch := omega) only [rdN, wrN, rdZ, wrZ, p_put_eq, call_some, nzN, boN, nI_1, nI_add, pk_mul, lit_4, lit_16, le_T, le_F, lt_T, lt_F, eq_T, eq_F, le_T0, le_F0, lt_F0, lt_T0, eq_T0, eq_F0, eqm_F, up_s2, up_n2, Ev_some, nz_0, nz_1, if_true, if_false, reduceIte, and_true, true_and, and_false, false_and, b2_0, b2_1, Bool.true_eq_false, Bool.false_eq_true, not_true_eq_false, not_false_eq_true, f_X1_nubsOf_b4]) (fun n s a hs => by
    show f_X1_nubsOf_b4 k (n + 1) (nI p) a (nI s) σ = f_X1_nubsOf_b4 k n (nI p) (a + _) (nI (s + 1)) σ
    simp (disch := omega) only [rdN, wrN, rdZ, wrZ, p_put_eq, call_some, nzN, boN, nI_1, nI_add, pk_mul, lit_4, lit_16, le_T, le_F, lt_T, lt_F, eq_T, eq_F, le_T0, le_F0, lt_F0, lt_T0, eq_T0, eq_F0, eqm_F, up_s2, up_n2, Ev_some, nz_0, nz_1, if_true, if_false, reduceIte, and_true, true_and, and_false, false_and, b2_0, b2_1, Bool.true_eq_false, Bool.false_eq_true, not_true_eq_false, not_false_eq_true, f_X1_nubsOf_b4, f_X1_nubsOf_b25, (hz.2.2.2.2.2.1 p hp s hs).2]
    by_cases h : sdv ri dn r c p s ≤ 0 <;> simp [h, b2]) fu 0 0 (by decide) (fu_lt (by decide))
  rw [Int32.zero_add] at h
  exact h
/-- a number for the four sides, by a factor b -/
def codV (b : Int32) (ri dn : Nat → Int32) (r c p t : Nat) : Int32 := (((0 * b + sdv ri dn r c p ((0 + 4 - t) % 4) + 9) * b + sdv ri dn r c p ((1 + 4 - t) % 4) + 9) * b + sdv ri dn r c p ((2 + 4 - t) % 4) + 9) * b + sdv ri dn r c p ((3 + 4 - t) % 4) + 9
theorem x_codeOf {σ : Sg} {k r c p t : Nat} {ri dn : Nat → Int32} (hz : CutOk σ k r c ri dn) (hp : p < r * c) (ht : t < 4) : f_X1_codeOf k (nI p) (nI t) σ = some (codV 19 ri dn r c p t, σ) := by
  have st : ∀ n s a, s < 4 → f_X1_codeOf_b5 k (n + 1) (nI p) (nI t) a (nI s) σ = f_X1_codeOf_b5 k n (nI p) (nI t) (a * 19 + sdv ri dn r c p ((s + 4 - t) % 4) + 9) (nI (s + 1)) σ := fun n s a hs => by
    simp (disch := omega) only [rdN, wrN, rdZ, wrZ, p_put_eq, call_some, nzN, boN, nI_1, nI_add, pk_mul, lit_4, lit_16, le_T, le_F, lt_T, lt_F, eq_T, eq_F, le_T0, le_F0, lt_F0, lt_T0, eq_T0, eq_F0, eqm_F, up_s2, up_n2, Ev_some, nz_0, nz_1, if_true, if_false, reduceIte, and_true, true_and, and_false, false_and, b2_0, b2_1, Bool.true_eq_false, Bool.false_eq_true, not_true_eq_false, not_false_eq_true, f_X1_codeOf_b5, x_sideOf hz hp hs ht]
  have key : ∀ n, f_X1_codeOf_b5 k (n + 1 + 1 + 1 + 1 + 1) (nI p) (nI t) 0 (nI 0) σ = some (codV 19 ri dn r c p t, σ) := fun n => by
    rw [st _ 0 _ (by decide), st _ (0 + 1) _ (by decide), st _ (0 + 1 + 1) _ (by decide), st _ (0 + 1 + 1 + 1) _ (by decide), f_X1_codeOf_b5]
    simp (disch := omega) only [rdN, wrN, rdZ, wrZ, p_put_eq, call_some, nzN, boN, nI_1, nI_add, pk_mul, lit_4, lit_16, le_T, le_F, lt_T, lt_F, eq_T, eq_F, le_T0, le_F0, lt_F0, lt_T0, eq_T0, eq_F0, eqm_F, up_s2, up_n2, Ev_some, nz_0, nz_1, if_true, if_false, reduceIte, and_true, true_and, and_false, false_and, b2_0, b2_1, Bool.true_eq_false, Bool.false_eq_true, not_true_eq_false, not_false_eq_true]
    rfl
  exact key 99999995
