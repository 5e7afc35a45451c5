/-! the class's Game and what it asks of the board -/
def fsX (ri dn pc tn : Nat → Int32) (r c p : Nat) : Bool := (ff (fun q => !(fl pc q) && (ff (fun t => fitX ri dn pc tn r c p t q) 0 4).isSome) 0 (r * c)).isSome
section GG
variable {σ : Sg} {k r c : Nat} {ri dn : Nat → Int32}
theorem x_fitsSomehow {p q : Nat} (hz : CutOk σ (k + 1) r c ri dn) (hb : BdX σ (k + 6) r c) (hp : p < r * c) (hq : q < r * c) : f_X3_fitsSomehow k (nI p) (nI q) σ = some (b2 (ff (fun t => fitX ri dn (σ (k + 6 + 1)) (σ (k + 6 + 2)) r c p t q) 0 4).isSome, σ) := by
  have h := lp_ff (L := fun n t => f_X3_fitsSomehow_b2 k n (nI p) (nI q) (nI t) σ) (m := 4) (p := fun t => fitX ri dn (σ (k + 6 + 1)) (σ (k + 6 + 2)) r c p t q) (E := some (0, σ)) (F := fun _ => some (1, σ)) (fun n => by
    show f_X3_fitsSomehow_b2 k (n + 1) (nI p) (nI q) (nI 4) σ = _
    simp (disch := omega) only [rdN, wrN, rdZ, wrZ, p_put_eq, call_some, nzN, boN, nI_1, nI_add, pk_mul, lit_4, lit_16, le_T, le_F, lt_T, lt_F, eq_T, eq_F, le_T0, le_F0, lt_F0, lt_T0, eq_T0, eq_F0, eqm_F, up_s2, up_n2, Ev_some, nz_0, nz_1, if_true, if_false, reduceIte, and_true, true_and, and_false, false_and, b2_0, b2_1, Bool.true_eq_false, Bool.false_eq_true, not_true_eq_false, not_false_eq_true, f_X3_fitsSomehow_b2]) (fun n t ht => by
    show f_X3_fitsSomehow_b2 k (n + 1) (nI p) (nI q) (nI t) σ = if _ then _ else f_X3_fitsSomehow_b2 k n (nI p) (nI q) (nI (t + 1)) σ
    rw [f_X3_fitsSomehow_b2]
    simp (disch := omega) only [rdN, wrN, rdZ, wrZ, p_put_eq, call_some, nzN, boN, nI_1, nI_add, pk_mul, lit_4, lit_16, le_T, le_F, lt_T, lt_F, eq_T, eq_F, le_T0, le_F0, lt_F0, lt_T0, eq_T0, eq_F0, eqm_F, up_s2, up_n2, Ev_some, nz_0, nz_1, if_true, if_false, reduceIte, and_true, true_and, and_false, false_and, b2_0, b2_1, Bool.true_eq_false, Bool.false_eq_true, not_true_eq_false, not_false_eq_true, x_isFit hz hb hp ht hq]
    by_cases h : fitX ri dn (σ (k + 6 + 1)) (σ (k + 6 + 2)) r c p t q = true <;> simp [h]) fu 0 (by decide) (fu_lt (by decide))
  refine Eq.trans h ?_
  rw [Nat.sub_zero]
  cases ff (fun t => fitX ri dn (σ (k + 6 + 1)) (σ (k + 6 + 2)) r c p t q) 0 4 <;> rfl
theorem x_hasPlaceFor {p : Nat} (hz : CutOk σ (k + 1) r c ri dn) (hb : BdX σ (k + 6) r c) (hp : p < r * c) : f_X3_hasPlaceFor k (nI p) σ = some (b2 (fsX ri dn (σ (k + 6 + 1)) (σ (k + 6 + 2)) r c p), σ) := by
  have hrc := hz.rc
  have h := lp_ff (L := fun n q => f_X3_hasPlaceFor_b2 k n (nI p) (nI q) σ) (m := r * c) (p := fun q => !(fl (σ (k + 6 + 1)) q) && (ff (fun t => fitX ri dn (σ (k + 6 + 1)) (σ (k + 6 + 2)) r c p t q) 0 4).isSome) (E := some (0, σ)) (F := fun _ => some (1, σ)) (fun n => by
    show f_X3_hasPlaceFor_b2 k (n + 1) (nI p) (nI (r * c)) σ = _
    simp (disch := omega) only [rdN, wrN, rdZ, wrZ, p_put_eq, call_some, nzN, boN, nI_1, nI_add, pk_mul, lit_4, lit_16, le_T, le_F, lt_T, lt_F, eq_T, eq_F, le_T0, le_F0, lt_F0, lt_T0, eq_T0, eq_F0, eqm_F, up_s2, up_n2, Ev_some, nz_0, nz_1, if_true, if_false, reduceIte, and_true, true_and, and_false, false_and, b2_0, b2_1, Bool.true_eq_false, Bool.false_eq_true, not_true_eq_false, not_false_eq_true, f_X3_hasPlaceFor_b2, hz.n]) (fun n q hq => by
    show f_X3_hasPlaceFor_b2 k (n + 1) (nI p) (nI q) σ = if _ then _ else f_X3_hasPlaceFor_b2 k n (nI p) (nI (q + 1)) σ
    have hq' : q < 16 := by omega
    rw [f_X3_hasPlaceFor_b2]
    simp (disch := omega) only [rdN, wrN, rdZ, wrZ, p_put_eq, call_some, nzN, boN, nI_1, nI_add, pk_mul, lit_4, lit_16, le_T, le_F, lt_T, lt_F, eq_T, eq_F, le_T0, le_F0, lt_F0, lt_T0, eq_T0, eq_F0, eqm_F, up_s2, up_n2, Ev_some, nz_0, nz_1, if_true, if_false, reduceIte, and_true, true_and, and_false, false_and, b2_0, b2_1, Bool.true_eq_false, Bool.false_eq_true, not_true_eq_false, not_false_eq_true, hz.n, x_isFilled hq', x_fitsSomehow hz hb hp hq, f_X3_hasPlaceFor_b35]
    by_cases h : fl (σ (k + 6 + 1)) q = true <;> by_cases h2 : (ff (fun t => fitX ri dn (σ (k + 6 + 1)) (σ (k + 6 + 2)) r c p t q) 0 4).isSome = true <;> simp [h, h2]) fu 0 (Nat.zero_le _) (fu_lt (by omega))
  unfold fsX
  refine Eq.trans h ?_
  rw [Nat.sub_zero]
  cases ff (fun q => !(fl (σ (k + 6 + 1)) q) && (ff (fun t => fitX ri dn (σ (k + 6 + 1)) (σ (k + 6 + 2)) r c p t q) 0 4).isSome) 0 (r * c) <;> rfl
/-- what the row is held against in a cell -/
def lieX (pc : Nat → Int32) (q : Nat) : Int32 := if fl pc q = true then pc q else 99
theorem x_compare {k1 n : Nat} (hz : CutOk σ (k1 + 1) r c ri dn) (hn : σ k 1 = nI n) (h16 : n ≤ 16) : f_X8_compareWith k k1 σ = some (match ff (fun q => !decide (σ (k + 1) q = lieX (σ (k1 + 6 + 1)) q)) 0 (min n (r * c)) with
    | none => if n = r * c then -9 else nI (min n (r * c))
    | some j => nI j, σ) := by
  have hrc := hz.rc
  have hm : jmin (nI n) (nI (r * c)) = nI (min n (r * c)) := by
    unfold jmin
    rw [Nat.min_def]
    rcases Nat.lt_or_ge (r * c) n with u | u
    · simp (disch := omega) only [rdN, wrN, rdZ, wrZ, p_put_eq, call_some, nzN, boN, nI_1, nI_add, pk_mul, lit_4, lit_16, le_T, le_F, lt_T, lt_F, eq_T, eq_F, le_T0, le_F0, lt_F0, lt_T0, eq_T0, eq_F0, eqm_F, up_s2, up_n2, Ev_some, nz_0, nz_1, if_true, if_false, reduceIte, and_true, true_and, and_false, false_and, b2_0, b2_1, Bool.true_eq_false, Bool.false_eq_true, not_true_eq_false, not_false_eq_true]
      rw [if_neg (by omega)]
    · simp (disch := omega) only [rdN, wrN, rdZ, wrZ, p_put_eq, call_some, nzN, boN, nI_1, nI_add, pk_mul, lit_4, lit_16, le_T, le_F, lt_T, lt_F, eq_T, eq_F, le_T0, le_F0, lt_F0, lt_T0, eq_T0, eq_F0, eqm_F, up_s2, up_n2, Ev_some, nz_0, nz_1, if_true, if_false, reduceIte, and_true, true_and, and_false, false_and, b2_0, b2_1, Bool.true_eq_false, Bool.false_eq_true, not_true_eq_false, not_false_eq_true]
      rw [if_pos u]
  have e1 : (nI n = nI (r * c)) = (n = r * c) := propext (nI_eq (by omega) (by omega))
  have hmin : min n (r * c) ≤ 16 := by omega
  have h := lp_ff (L := fun f q => f_X8_compareWith_b20 k k1 f (nI (r * c)) (nI (min n (r * c))) (nI q) σ) (m := min n (r * c)) (p := fun q => !decide (σ (k + 1) q = lieX (σ (k1 + 6 + 1)) q)) (E := some (if n = r * c then -9 else nI (min n (r * c)), σ)) (F := fun j => some (nI j, σ)) (fun f => by
    show f_X8_compareWith_b20 k k1 (f + 1) (nI (r * c)) (nI (min n (r * c))) (nI (min n (r * c))) σ = _
    rw [f_X8_compareWith_b20, hn]
    simp (disch := omega) only [rdN, wrN, rdZ, wrZ, p_put_eq, call_some, nzN, boN, nI_1, nI_add, pk_mul, lit_4, lit_16, le_T, le_F, lt_T, lt_F, eq_T, eq_F, le_T0, le_F0, lt_F0, lt_T0, eq_T0, eq_F0, eqm_F, up_s2, up_n2, Ev_some, nz_0, nz_1, if_true, if_false, reduceIte, and_true, true_and, and_false, false_and, b2_0, b2_1, Bool.true_eq_false, Bool.false_eq_true, not_true_eq_false, not_false_eq_true, e1]
    by_cases h : n = r * c <;> simp [h]) (fun f q hq => by
    show f_X8_compareWith_b20 k k1 (f + 1) (nI (r * c)) (nI (min n (r * c))) (nI q) σ = if _ then _ else f_X8_compareWith_b20 k k1 f (nI (r * c)) (nI (min n (r * c))) (nI (q + 1)) σ
    have hq' : q < 16 := by omega
    rw [f_X8_compareWith_b20]
    simp (disch := omega) only [rdN, wrN, rdZ, wrZ, p_put_eq, call_some, nzN, boN, nI_1, nI_add, pk_mul, lit_4, lit_16, le_T, le_F, lt_T, lt_F, eq_T, eq_F, le_T0, le_F0, lt_F0, lt_T0, eq_T0, eq_F0, eqm_F, up_s2, up_n2, Ev_some, nz_0, nz_1, if_true, if_false, reduceIte, and_true, true_and, and_false, false_and, b2_0, b2_1, Bool.true_eq_false, Bool.false_eq_true, not_true_eq_false, not_false_eq_true, x_isFilled hq', f_X8_compareWith_b53]
    by_cases h : fl (σ (k1 + 6 + 1)) q = true
    · have hl : lieX (σ (k1 + 6 + 1)) q = σ (k1 + 6 + 1) q := if_pos h
      rw [if_neg (by rw [h]; decide), hl]
      rcases Classical.propComplete (σ (k + 1) q = σ (k1 + 6 + 1) q) with pc1 | pc1 <;> simp [pc1, b2]
    · have hl : lieX (σ (k1 + 6 + 1)) q = 99 := if_neg h
      rw [if_pos (by simpa using h), hl]
      rcases Classical.propComplete (σ (k + 1) q = 99) with pc1 | pc1 <;> simp [pc1, b2]) fu 0 (Nat.zero_le _) (fu_lt (by omega))
  unfold f_X8_compareWith
  rw [hz.n, hn, hm]
  refine Eq.trans h ?_
  rw [Nat.sub_zero]
  cases ff (fun q => !decide (σ (k + 1) q = lieX (σ (k1 + 6 + 1)) q)) 0 (min n (r * c)) <;> rfl
theorem x_wrong (hz : CutOk σ (k + 1 + 1) r c ri dn) : f_X10_wrong k σ = some (sm (fun q => b2 (!(own (σ (k + 1 + 6 + 1)) (σ (k + 1 + 6 + 2)) q))) 0 (r * c), σ) := by
  have hrc := hz.rc
  have h := lp_sm (L := fun n i a => f_X10_wrong_b4 k n a (nI i) σ) (m := r * c) (g := fun q => b2 (!(own (σ (k + 1 + 6 + 1)) (σ (k + 1 + 6 + 2)) q))) (E := fun a => some (a, σ)) (fun n a => by
    show f_X10_wrong_b4 k (n + 1) a (nI (r * c)) σ = _
    simp (disch := omega) only [rdN, wrN, rdZ, wrZ, p_put_eq, call_some, nzN, boN, nI_1, nI_add, pk_mul, lit_4, lit_16, le_T, le_F, lt_T, lt_F, eq_T, eq_F, le_T0, le_F0, lt_F0, lt_T0, eq_T0, eq_F0, eqm_F, up_s2, up_n2, Ev_some, nz_0, nz_1, if_true, if_false, reduceIte, and_true, true_and, and_false, false_and, b2_0, b2_1, Bool.true_eq_false, Bool.false_eq_true, not_true_eq_false, not_false_eq_true, f_X10_wrong_b4, hz.n]) (fun n i a hi => by
    have hi' : i < 16 := by omega
    show f_X10_wrong_b4 k (n + 1) a (nI i) σ = f_X10_wrong_b4 k n (a + _) (nI (i + 1)) σ
    simp (disch := omega) only [rdN, wrN, rdZ, wrZ, p_put_eq, call_some, nzN, boN, nI_1, nI_add, pk_mul, lit_4, lit_16, le_T, le_F, lt_T, lt_F, eq_T, eq_F, le_T0, le_F0, lt_F0, lt_T0, eq_T0, eq_F0, eqm_F, up_s2, up_n2, Ev_some, nz_0, nz_1, if_true, if_false, reduceIte, and_true, true_and, and_false, false_and, b2_0, b2_1, Bool.true_eq_false, Bool.false_eq_true, not_true_eq_false, not_false_eq_true, f_X10_wrong_b4, hz.n, x_isRight hi', f_X10_wrong_b35]
    by_cases h : own (σ (k + 1 + 6 + 1)) (σ (k + 1 + 6 + 2)) i = true <;> simp [h, b2]) fu 0 0 (Nat.zero_le _) (fu_lt (by omega))
  rw [Int32.zero_add] at h
  exact h
theorem x_falseOne (hz : CutOk σ (k + 1 + 1) r c ri dn) : f_X10_falseOne k σ = some (orN (ff (fun q => fl (σ (k + 1 + 6 + 1)) q && !(own (σ (k + 1 + 6 + 1)) (σ (k + 1 + 6 + 2)) q)) 0 (r * c)), σ) := by
  have hrc := hz.rc
  have h := lp_ff (L := fun n i => f_X10_falseOne_b2 k n (nI i) σ) (m := r * c) (p := fun q => fl (σ (k + 1 + 6 + 1)) q && !(own (σ (k + 1 + 6 + 1)) (σ (k + 1 + 6 + 2)) q)) (E := some (-9, σ)) (F := fun j => some (nI j, σ)) (fun n => by
    show f_X10_falseOne_b2 k (n + 1) (nI (r * c)) σ = _
    simp (disch := omega) only [rdN, wrN, rdZ, wrZ, p_put_eq, call_some, nzN, boN, nI_1, nI_add, pk_mul, lit_4, lit_16, le_T, le_F, lt_T, lt_F, eq_T, eq_F, le_T0, le_F0, lt_F0, lt_T0, eq_T0, eq_F0, eqm_F, up_s2, up_n2, Ev_some, nz_0, nz_1, if_true, if_false, reduceIte, and_true, true_and, and_false, false_and, b2_0, b2_1, Bool.true_eq_false, Bool.false_eq_true, not_true_eq_false, not_false_eq_true, f_X10_falseOne_b2, hz.n]) (fun n i hi => by
    have hi' : i < 16 := by omega
    show f_X10_falseOne_b2 k (n + 1) (nI i) σ = if _ then _ else f_X10_falseOne_b2 k n (nI (i + 1)) σ
    simp (disch := omega) only [rdN, wrN, rdZ, wrZ, p_put_eq, call_some, nzN, boN, nI_1, nI_add, pk_mul, lit_4, lit_16, le_T, le_F, lt_T, lt_F, eq_T, eq_F, le_T0, le_F0, lt_F0, lt_T0, eq_T0, eq_F0, eqm_F, up_s2, up_n2, Ev_some, nz_0, nz_1, if_true, if_false, reduceIte, and_true, true_and, and_false, false_and, b2_0, b2_1, Bool.true_eq_false, Bool.false_eq_true, not_true_eq_false, not_false_eq_true, f_X10_falseOne_b2, hz.n, x_isRight hi', x_isFilled hi', f_X10_falseOne_b46]
    by_cases h : fl (σ (k + 1 + 6 + 1)) i = true <;> by_cases h2 : own (σ (k + 1 + 6 + 1)) (σ (k + 1 + 6 + 2)) i = true <;> simp [h, h2]) fu 0 (Nat.zero_le _) (fu_lt (by omega))
  exact h.trans orN_m
theorem x_over (hz : CutOk σ (k + 1 + 1) r c ri dn) (hb : BdX σ (k + 1 + 6) r c) : f_X10_over k σ = some (orN (ff (fun p => !(aw (σ (k + 1 + 6 + 4)) (σ (k + 1 + 6 + 5)) p) && !(fsX ri dn (σ (k + 1 + 6 + 1)) (σ (k + 1 + 6 + 2)) r c p)) 0 (r * c)), σ) := by
  have hrc := hz.rc
  have h := lp_ff (L := fun n i => f_X10_over_b2 k n (nI i) σ) (m := r * c) (p := fun p => !(aw (σ (k + 1 + 6 + 4)) (σ (k + 1 + 6 + 5)) p) && !(fsX ri dn (σ (k + 1 + 6 + 1)) (σ (k + 1 + 6 + 2)) r c p)) (E := some (-9, σ)) (F := fun j => some (nI j, σ)) (fun n => by
    show f_X10_over_b2 k (n + 1) (nI (r * c)) σ = _
    simp (disch := omega) only [rdN, wrN, rdZ, wrZ, p_put_eq, call_some, nzN, boN, nI_1, nI_add, pk_mul, lit_4, lit_16, le_T, le_F, lt_T, lt_F, eq_T, eq_F, le_T0, le_F0, lt_F0, lt_T0, eq_T0, eq_F0, eqm_F, up_s2, up_n2, Ev_some, nz_0, nz_1, if_true, if_false, reduceIte, and_true, true_and, and_false, false_and, b2_0, b2_1, Bool.true_eq_false, Bool.false_eq_true, not_true_eq_false, not_false_eq_true, f_X10_over_b2, hz.n]) (fun n i hi => by
    have hi' : i < 16 := by omega
    show f_X10_over_b2 k (n + 1) (nI i) σ = if _ then _ else f_X10_over_b2 k n (nI (i + 1)) σ
    simp (disch := omega) only [rdN, wrN, rdZ, wrZ, p_put_eq, call_some, nzN, boN, nI_1, nI_add, pk_mul, lit_4, lit_16, le_T, le_F, lt_T, lt_F, eq_T, eq_F, le_T0, le_F0, lt_F0, lt_T0, eq_T0, eq_F0, eqm_F, up_s2, up_n2, Ev_some, nz_0, nz_1, if_true, if_false, reduceIte, and_true, true_and, and_false, false_and, b2_0, b2_1, Bool.true_eq_false, Bool.false_eq_true, not_true_eq_false, not_false_eq_true, f_X10_over_b2, hz.n, x_isAway hi', x_hasPlaceFor hz hb hi, f_X10_over_b43]
    by_cases h : aw (σ (k + 1 + 6 + 4)) (σ (k + 1 + 6 + 5)) i = true <;> by_cases h2 : fsX ri dn (σ (k + 1 + 6 + 1)) (σ (k + 1 + 6 + 2)) r c i = true <;> simp [h, h2]) fu 0 (Nat.zero_le _) (fu_lt (by omega))
  exact h.trans orN_m
end GG
