/-! the class's Pile: what seems, what lacks -/
theorem sm_zero {g : Nat → Int32} : ∀ (n i : Nat), (∀ j, i ≤ j → j < i + n → g j = 0) → sm g i n = 0
  | 0, _, _ => rfl
  | n + 1, i, e => by
    unfold sm
    rw [e i (by omega) (by omega), sm_zero n (i + 1) (fun j a b => e j (by omega) (by omega))]
    rfl
theorem sm_snoc {g : Nat → Int32} : ∀ (n i : Nat), sm g i (n + 1) = sm g i n + g (i + n)
  | 0, i => by simp [sm]
  | n + 1, i => by
    rw [sm, sm_snoc n (i + 1), sm, Int32.add_assoc, show i + 1 + n = i + (n + 1) by omega]
theorem sm_split {g : Nat → Int32} : ∀ (m n i : Nat), sm g i (m + n) = sm g i m + sm g (i + m) n
  | 0, n, i => by simp [sm]
  | m + 1, n, i => by
    rw [show m + 1 + n = (m + n) + 1 by omega, sm, sm, sm_split m n (i + 1), Int32.add_assoc, show i + 1 + m = i + (m + 1) by omega]
theorem CutOk.fr {σ υ : Sg} {k r c : Nat} {ri dn : Nat → Int32} (h : CutOk σ k r c ri dn) (e : ∀ j, j ≤ 3 → υ (k + j) = σ (k + j)) : CutOk υ k r c ri dn := by
  have q0 := e 0 (by decide)
  rw [Nat.add_zero] at q0
  unfold CutOk
  rw [q0, e 1 (by decide), e 2 (by decide), e 3 (by decide)]
  exact h
theorem CutOk.r {σ : Sg} {k r c : Nat} {ri dn : Nat → Int32} (h : CutOk σ k r c ri dn) : 2 ≤ r ∧ r < 5 := h.2.2.2.1
theorem CutOk.c {σ : Sg} {k r c : Nat} {ri dn : Nat → Int32} (h : CutOk σ k r c ri dn) : 2 ≤ c ∧ c < 5 := h.2.2.2.2.1
theorem CutOk.n {σ : Sg} {k r c : Nat} {ri dn : Nat → Int32} (h : CutOk σ k r c ri dn) : σ k 2 = nI (r * c) := h.2.2.1
section SS
variable {σ : Sg} {k0 r c p q s : Nat} {ri dn : Nat → Int32}
theorem x_seem_in {fc : Nat} {a : Int32} {R : Int32 → Int32 → Int32 → Int32 → Sg → Rs} (hz : CutOk σ k0 r c ri dn) (hp : p < r * c) (hq : q < r * c) (hs : s < 4) (hf : fc ≤ 4) : f_X5_seemingSides_b47 k0 R fu (nI p) (nI q) a (nI s) (sdv ri dn r c p s) (nI fc) 0 σ = R (nI p) (nI q) (a + sm (fun t => b2 (!decide (t = fc) && !(decide (sdv ri dn r c p s = 0)) && decide (sdv ri dn r c p s + sdv ri dn r c q t = 0))) 0 4) (nI (s + 1)) σ := by
  by_cases hv : sdv ri dn r c p s = 0
  · have z : ∀ n, f_X5_seemingSides_b47 k0 R (n + 1) (nI p) (nI q) a (nI s) (sdv ri dn r c p s) (nI fc) 0 σ = R (nI p) (nI q) a (nI (s + 1)) σ := fun n => by
      rw [f_X5_seemingSides_b47, if_pos hv, f_X5_seemingSides_b88, nI_1]
    rw [sm_zero 4 0 (fun j _ _ => by simp [hv, b2]), Int32.add_zero]
    exact z 99999999
  · have h := lp_sm (L := fun n t x => f_X5_seemingSides_b47 k0 R n (nI p) (nI q) x (nI s) (sdv ri dn r c p s) (nI fc) (nI t) σ) (m := 4) (g := fun t => b2 (!decide (t = fc) && !(decide (sdv ri dn r c p s = 0)) && decide (sdv ri dn r c p s + sdv ri dn r c q t = 0))) (E := fun x => R (nI p) (nI q) x (nI (s + 1)) σ) (fun n x => by
      show f_X5_seemingSides_b47 k0 R (n + 1) (nI p) (nI q) x (nI s) _ (nI fc) (nI 4) σ = _
      rw [f_X5_seemingSides_b47]
      simp (disch := omega) only [rdN, wrN, rdZ, wrZ, p_put_eq, call_some, nzN, boN, nI_1, nI_add, pk_mul, lit_4, lit_16, le_T, le_F, lt_T, lt_F, eq_T, eq_F, le_T0, le_F0, lt_F0, lt_T0, eq_T0, eq_F0, eqm_F, up_s2, up_n2, Ev_some, nz_0, nz_1, if_true, if_false, reduceIte, and_true, true_and, and_false, false_and, b2_0, b2_1, Bool.true_eq_false, Bool.false_eq_true, not_true_eq_false, not_false_eq_true, hv, f_X5_seemingSides_b88]) (fun n t x ht => by
      show f_X5_seemingSides_b47 k0 R (n + 1) (nI p) (nI q) x (nI s) _ (nI fc) (nI t) σ = f_X5_seemingSides_b47 k0 R n (nI p) (nI q) (x + _) (nI s) _ (nI fc) (nI (t + 1)) σ
      have e : (nI t = nI fc) = (t = fc) := propext (nI_eq (by omega) (by omega))
      rw [f_X5_seemingSides_b47]
      simp (disch := omega) only [rdN, wrN, rdZ, wrZ, p_put_eq, call_some, nzN, boN, nI_1, nI_add, pk_mul, lit_4, lit_16, le_T, le_F, lt_T, lt_F, eq_T, eq_F, le_T0, le_F0, lt_F0, lt_T0, eq_T0, eq_F0, eqm_F, up_s2, up_n2, Ev_some, nz_0, nz_1, if_true, if_false, reduceIte, and_true, true_and, and_false, false_and, b2_0, b2_1, Bool.true_eq_false, Bool.false_eq_true, not_true_eq_false, not_false_eq_true, hv, f_X5_seemingSides_b82, e, x_sideOf0 hz hq ht]
      rcases Classical.propComplete (t = fc) with pc1 | pc1 <;> rcases Classical.propComplete (sdv ri dn r c p s + sdv ri dn r c q t = 0) with pc2 | pc2 <;> simp [pc1, pc2, b2]) fu 0 a (by decide) (fu_lt (by decide))
    exact h
theorem x_seemingSides (hz : CutOk σ k0 r c ri dn) (hp : p < r * c) (hq : q < r * c) : f_X5_seemingSides k0 (nI p) (nI q) σ = some (seeV ri dn r c p q, σ) := by
  have hrc := hz.rc
  have h := lp_sm (L := fun n s a => f_X5_seemingSides_b5 k0 n (nI p) (nI q) a (nI s) σ) (m := 4) (g := fun s => sm (fun t => b2 (see1 ri dn r c p q s t)) 0 4) (E := fun a => some (a, σ)) (fun n a => by
    show f_X5_seemingSides_b5 k0 (n + 1) (nI p) (nI q) a (nI 4) σ = _
    simp (disch := omega) only [rdN, wrN, rdZ, wrZ, p_put_eq, call_some, nzN, boN, nI_1, nI_add, pk_mul, lit_4, lit_16, le_T, le_F, lt_T, lt_F, eq_T, eq_F, le_T0, le_F0, lt_F0, lt_T0, eq_T0, eq_F0, eqm_F, up_s2, up_n2, Ev_some, nz_0, nz_1, if_true, if_false, reduceIte, and_true, true_and, and_false, false_and, b2_0, b2_1, Bool.true_eq_false, Bool.false_eq_true, not_true_eq_false, not_false_eq_true, f_X5_seemingSides_b5]) (fun n s a hs => by
    show f_X5_seemingSides_b5 k0 (n + 1) (nI p) (nI q) a (nI s) σ = f_X5_seemingSides_b5 k0 n (nI p) (nI q) (a + _) (nI (s + 1)) σ
    have e8 : nI s + 2 - (nI s + 2) / nI 4 * nI 4 = nI ((s + 2) % 4) := opp_tab s hs
    have e9 : (bsI (bs r c p s) = nI q) = (bs r c p s = some q) := bsI_eq (fun x hx => by have := bs_lt hz.r hz.c hp hs hx; omega) (by omega)
    have hm : (s + 2) % 4 < 4 := Nat.mod_lt _ (by decide)
    rw [f_X5_seemingSides_b5]
    simp (disch := omega) only [rdN, wrN, rdZ, wrZ, p_put_eq, call_some, nzN, boN, nI_1, nI_add, pk_mul, lit_4, lit_16, le_T, le_F, lt_T, lt_F, eq_T, eq_F, le_T0, le_F0, lt_F0, lt_T0, eq_T0, eq_F0, eqm_F, up_s2, up_n2, Ev_some, nz_0, nz_1, if_true, if_false, reduceIte, and_true, true_and, and_false, false_and, b2_0, b2_1, Bool.true_eq_false, Bool.false_eq_true, not_true_eq_false, not_false_eq_true, x_sideOf0 hz hp hs, x_beside hz hp hs, e8, e9, f_X5_seemingSides_b42, x_seem_in hz hp hq hs (Nat.le_of_lt hm), x_seem_in hz hp hq hs (Nat.le_refl 4)]
    by_cases hb : bs r c p s = some q
    · rw [if_pos hb]
      congr 2
      exact sm_congr 4 0 (fun t _ _ => by simp [see1, hb])
    · rw [if_neg hb]
      congr 2
      exact sm_congr 4 0 (fun t _ ht => by
        have : ¬ t = 4 := by omega
        simp [see1, hb, this])) fu 0 0 (by decide) (fu_lt (by decide))
  rw [Int32.zero_add] at h
  exact h
def semX (ri dn lo : Nat → Int32) (r c : Nat) : Int32 := sm (fun p => sm (fun q => if lo p = 0 ∧ lo q = 0 then seeV ri dn r c p q else 0) (p + 1) (r * c - (p + 1))) 0 (r * c)
theorem x_seemingPairs {k k2 : Nat} (hz : CutOk σ k0 r c ri dn) : f_X5_seemingPairs k k0 k2 σ = some (semX ri dn (σ (k2 + 5)) r c, σ) := by
  have hrc := hz.rc
  have h := lp_sm (L := fun n p a => f_X5_seemingPairs_b5 k k0 k2 n a (nI p) σ) (m := r * c) (g := fun p => sm (fun q => if σ (k2 + 5) p = 0 ∧ σ (k2 + 5) q = 0 then seeV ri dn r c p q else 0) (p + 1) (r * c - (p + 1))) (E := fun a => some (a, σ)) (fun n a => by
    show f_X5_seemingPairs_b5 k k0 k2 (n + 1) a (nI (r * c)) σ = _
    simp (disch := omega) only [rdN, wrN, rdZ, wrZ, p_put_eq, call_some, nzN, boN, nI_1, nI_add, pk_mul, lit_4, lit_16, le_T, le_F, lt_T, lt_F, eq_T, eq_F, le_T0, le_F0, lt_F0, lt_T0, eq_T0, eq_F0, eqm_F, up_s2, up_n2, Ev_some, nz_0, nz_1, if_true, if_false, reduceIte, and_true, true_and, and_false, false_and, b2_0, b2_1, Bool.true_eq_false, Bool.false_eq_true, not_true_eq_false, not_false_eq_true, f_X5_seemingPairs_b5, hz.n]) (fun n p a hp => by
    have h2 := lp_sm (L := fun n' q x => f_X5_seemingPairs_b20 k k0 k2 (f_X5_seemingPairs_b5 k k0 k2 n) n' x (nI p) (nI q) σ) (m := r * c) (g := fun q => if σ (k2 + 5) p = 0 ∧ σ (k2 + 5) q = 0 then seeV ri dn r c p q else 0) (E := fun x => f_X5_seemingPairs_b5 k k0 k2 n x (nI (p + 1)) σ) (fun n' x => by
      show f_X5_seemingPairs_b20 k k0 k2 (f_X5_seemingPairs_b5 k k0 k2 n) (n' + 1) x (nI p) (nI (r * c)) σ = _
      simp (disch := omega) only [rdN, wrN, rdZ, wrZ, p_put_eq, call_some, nzN, boN, nI_1, nI_add, pk_mul, lit_4, lit_16, le_T, le_F, lt_T, lt_F, eq_T, eq_F, le_T0, le_F0, lt_F0, lt_T0, eq_T0, eq_F0, eqm_F, up_s2, up_n2, Ev_some, nz_0, nz_1, if_true, if_false, reduceIte, and_true, true_and, and_false, false_and, b2_0, b2_1, Bool.true_eq_false, Bool.false_eq_true, not_true_eq_false, not_false_eq_true, f_X5_seemingPairs_b20, hz.n]) (fun n' q x hq => by
      show f_X5_seemingPairs_b20 k k0 k2 (f_X5_seemingPairs_b5 k k0 k2 n) (n' + 1) x (nI p) (nI q) σ = f_X5_seemingPairs_b20 k k0 k2 (f_X5_seemingPairs_b5 k k0 k2 n) n' (x + _) (nI p) (nI (q + 1)) σ
      rw [f_X5_seemingPairs_b20]
      simp (disch := omega) only [rdN, wrN, rdZ, wrZ, p_put_eq, call_some, nzN, boN, nI_1, nI_add, pk_mul, lit_4, lit_16, le_T, le_F, lt_T, lt_F, eq_T, eq_F, le_T0, le_F0, lt_F0, lt_T0, eq_T0, eq_F0, eqm_F, up_s2, up_n2, Ev_some, nz_0, nz_1, if_true, if_false, reduceIte, and_true, true_and, and_false, false_and, b2_0, b2_1, Bool.true_eq_false, Bool.false_eq_true, not_true_eq_false, not_false_eq_true, hz.n, f_X5_seemingPairs_b60, x_seemingSides hz hp hq]
      rcases Classical.propComplete (σ (k2 + 5) p = 0) with pc1 | pc1 <;> rcases Classical.propComplete (σ (k2 + 5) q = 0) with pc2 | pc2 <;> simp [pc1, pc2, b2]) fu (p + 1) a (by omega) (fu_lt (by omega))
    show f_X5_seemingPairs_b5 k k0 k2 (n + 1) a (nI p) σ = f_X5_seemingPairs_b5 k k0 k2 n (a + _) (nI (p + 1)) σ
    rw [f_X5_seemingPairs_b5]
    simp (disch := omega) only [rdN, wrN, rdZ, wrZ, p_put_eq, call_some, nzN, boN, nI_1, nI_add, pk_mul, lit_4, lit_16, le_T, le_F, lt_T, lt_F, eq_T, eq_F, le_T0, le_F0, lt_F0, lt_T0, eq_T0, eq_F0, eqm_F, up_s2, up_n2, Ev_some, nz_0, nz_1, if_true, if_false, reduceIte, and_true, true_and, and_false, false_and, b2_0, b2_1, Bool.true_eq_false, Bool.false_eq_true, not_true_eq_false, not_false_eq_true, hz.n]
    exact h2) fu 0 0 (Nat.zero_le _) (fu_lt (by omega))
  rw [Int32.zero_add, Nat.sub_zero] at h
  exact h
theorem sem_eq {lo lo' : Nat → Int32} (h : ∀ p, p < r * c → lo' p = lo p ∧ (lo p = 0 ∨ lo p = 1)) : semX ri dn lo' r c = semV ri dn lo r c := by
  unfold semX semV
  refine sm_congr _ _ (fun p _ hp => sm_congr _ _ (fun q _ hq => ?_))
  obtain ⟨a1, a2⟩ := h p (by omega)
  obtain ⟨b1, b2⟩ := h q (by omega)
  rw [a1, b1]
  rcases a2 with a2 | a2 <;> rcases b2 with b2 | b2 <;> simp [a2, b2]
end SS
/-- a side's value: flat, or a class of 1 .. 9 -/
def EdV (v : Int32) : Prop := ∃ j : Nat, 1 ≤ j ∧ j ≤ 9 ∧ (v = nI j ∨ v = -(nI j))
def Ed (ri dn : Nat → Int32) : Prop := ∀ p, p < 16 → EdV (ri p) ∧ EdV (dn p)
theorem EdV.neg {v : Int32} (h : EdV v) : EdV (-v) := by
  obtain ⟨j, a, b, e | e⟩ := h
  · exact ⟨j, a, b, .inr (by rw [e])⟩
  · exact ⟨j, a, b, .inl (by rw [e, Int32.neg_neg])⟩
theorem EdV.ne {v : Int32} (h : EdV v) : ¬ v = 0 := by
  obtain ⟨j, a, b, e⟩ := h
  have key : ∀ j, j < 10 → 1 ≤ j → ¬ nI j = 0 ∧ ¬ -(nI j) = 0 := by decide +kernel
  have := key j (by omega) a
  rcases e with e | e <;> rw [e]
  · exact this.1
  · exact this.2
theorem sdv_ed {ri dn : Nat → Int32} {r c p s : Nat} (h1 : 2 ≤ r ∧ r < 5) (h2 : 2 ≤ c ∧ c < 5) (he : Ed ri dn) (hp : p < r * c) (hs : s < 4) : (bs r c p s = none ∧ sdv ri dn r c p s = 0) ∨ ((bs r c p s).isSome = true ∧ EdV (sdv ri dn r c p s)) := by
  have hrc := rc16 h1 h2
  unfold sdv
  cases hb : bs r c p s with
  | none => exact .inl ⟨rfl, rfl⟩
  | some q =>
    have hq := bs_lt h1 h2 hp hs hb
    refine .inr ⟨rfl, ?_⟩
    have a := he p (by omega)
    have b := he q (by omega)
    rcases s4c hs with rfl | rfl | rfl | rfl
    · exact b.2.neg
    · exact a.1
    · exact a.2
    · exact b.1.neg
theorem sdv_0 {ri dn : Nat → Int32} {r c p s : Nat} (h1 : 2 ≤ r ∧ r < 5) (h2 : 2 ≤ c ∧ c < 5) (he : Ed ri dn) (hp : p < r * c) (hs : s < 4) : (sdv ri dn r c p s = 0) = (bs r c p s = none) := by
  rcases sdv_ed h1 h2 he hp hs with ⟨a, b⟩ | ⟨a, b⟩
  · simp [a, b]
  · have := b.ne
    have h3 : ¬ bs r c p s = none := fun e => by rw [e] at a; cases a
    simp [this, h3]
theorem flat_rim {ri dn : Nat → Int32} {r c p : Nat} (h1 : 2 ≤ r ∧ r < 5) (h2 : 2 ≤ c ∧ c < 5) (he : Ed ri dn) (hp : p < r * c) : flat ri dn r c p = rim r c p := by
  unfold flat rim
  have e : ∀ s, s < 4 → decide (sdv ri dn r c p s = 0) = (bs r c p s).isNone := fun s hs => by
    rw [show decide (sdv ri dn r c p s = 0) = decide (bs r c p s = none) from decide_eq_decide.mpr (by rw [sdv_0 h1 h2 he hp hs])]
    cases bs r c p s <;> simp
  rw [ff_congr 4 0 (fun j _ hj => e j (by omega))]
  have g : ∀ f : Nat → Bool, (ff f 0 4).isSome = (List.range 4).any f := fun f => by
    simp only [ff, show List.range 4 = [0, 1, 2, 3] from rfl, List.any_cons, List.any_nil]
    by_cases h0 : f 0 = true <;> by_cases h1 : f 1 = true <;> by_cases h2 : f 2 = true <;> by_cases h3 : f 3 = true <;> simp [h0, h1, h2, h3]
  exact g _
/-- what a side adds to the sums, times x -/
def adV (x v : Int32) (j : Nat) : Int32 := if bal1 v j = 1 then x else if bal1 v j = -1 then -x else 0
theorem adT0 : ∀ i, i < 10 → bal1 0 i = if i = 0 then 1 else 0 := by decide +kernel
theorem adT1 : ∀ j, j < 10 → ∀ i, i < 10 → 1 ≤ j → bal1 (nI j) i = if i = j then 1 else 0 := by decide +kernel
theorem adT2 : ∀ j, j < 10 → ∀ i, i < 10 → 1 ≤ j → bal1 (-(nI j)) i = if i = j then -1 else 0 := by decide +kernel
theorem jabsT : ∀ j, j < 10 → 1 ≤ j → jabs (-(nI j)) = nI j ∧ ¬ 0 ≤ -(nI j) ∧ jabs (nI j) = nI j ∧ 0 ≤ nI j := by decide +kernel
theorem x_add {σ : Sg} {a0 k1 r c p : Nat} {ri dn : Nat → Int32} {x : Int32} (hz : CutOk σ k1 r c ri dn) (he : Ed ri dn) (ha : a0 < k1 ∨ k1 + 4 < a0) (hp : p < r * c) : Ev (f_X5_add a0 10 k1 (nI p) x σ) (fun _ υ => Fr a0 a0 σ υ ∧ ∀ i, i < 10 → υ a0 i = σ a0 i + sm (fun s => adV x (sdv ri dn r c p s) i) 0 4) := by
  refine lp_ev (L := fun n s υ => f_X5_add_b3 a0 10 k1 n (nI p) x (nI s) υ) (m := 4) (I := fun s υ => Fr a0 a0 σ υ ∧ ∀ i, i < 10 → υ a0 i = σ a0 i + sm (fun s => adV x (sdv ri dn r c p s) i) 0 s) (fun n υ h => ?_) (fun n s υ hs h ih => ?_) fu 0 σ (by decide) (fu_lt (by decide)) ⟨Fr.refl, fun i _ => by rw [sm, Int32.add_zero]⟩
  · show Ev (f_X5_add_b3 a0 10 k1 (n + 1) (nI p) x (nI 4) υ) _
    simp (disch := omega) only [rdN, wrN, rdZ, wrZ, p_put_eq, call_some, nzN, boN, nI_1, nI_add, pk_mul, lit_4, lit_16, le_T, le_F, lt_T, lt_F, eq_T, eq_F, le_T0, le_F0, lt_F0, lt_T0, eq_T0, eq_F0, eqm_F, up_s2, up_n2, Ev_some, nz_0, nz_1, if_true, if_false, reduceIte, and_true, true_and, and_false, false_and, b2_0, b2_1, Bool.true_eq_false, Bool.false_eq_true, not_true_eq_false, not_false_eq_true, f_X5_add_b3]
    exact h
  · show Ev (f_X5_add_b3 a0 10 k1 (n + 1) (nI p) x (nI s) υ) _
    obtain ⟨hf, hv⟩ := h
    have hz' : CutOk υ k1 r c ri dn := hz.fr (fun j hj => hf _ (by omega))
    -- what is written, once the place and the summand are known
    have fin : ∀ (j : Nat) (w : Int32), j < 10 → (∀ i, i < 10 → adV x (sdv ri dn r c p s) i = if i = j then w else 0) → Ev (f_X5_add_b38 a0 10 k1 (f_X5_add_b3 a0 10 k1 n) (nI p) x (nI s) (nI j) (υ a0 j) w υ) (fun _ υ => Fr a0 a0 σ υ ∧ ∀ i, i < 10 → υ a0 i = σ a0 i + sm (fun s => adV x (sdv ri dn r c p s) i) 0 4) := by
      intro j w hj hw
      unfold f_X5_add_b38
      simp (disch := omega) only [rdN, wrN, rdZ, wrZ, p_put_eq, call_some, nzN, boN, nI_1, nI_add, pk_mul, lit_4, lit_16, le_T, le_F, lt_T, lt_F, eq_T, eq_F, le_T0, le_F0, lt_F0, lt_T0, eq_T0, eq_F0, eqm_F, up_s2, up_n2, Ev_some, nz_0, nz_1, if_true, if_false, reduceIte, and_true, true_and, and_false, false_and, b2_0, b2_1, Bool.true_eq_false, Bool.false_eq_true, not_true_eq_false, not_false_eq_true]
      refine ih _ ⟨hf.up (by omega), fun i hi => ?_⟩
      rw [sm_snoc, Nat.zero_add, hw i hi, ← Int32.add_assoc, ← hv i hi]
      by_cases e : i = j
      · subst e
        simp (disch := omega) only [rdN, wrN, rdZ, wrZ, p_put_eq, call_some, nzN, boN, nI_1, nI_add, pk_mul, lit_4, lit_16, le_T, le_F, lt_T, lt_F, eq_T, eq_F, le_T0, le_F0, lt_F0, lt_T0, eq_T0, eq_F0, eqm_F, up_s2, up_n2, Ev_some, nz_0, nz_1, if_true, if_false, reduceIte, and_true, true_and, and_false, false_and, b2_0, b2_1, Bool.true_eq_false, Bool.false_eq_true, not_true_eq_false, not_false_eq_true]
      · simp (disch := omega) only [rdN, wrN, rdZ, wrZ, p_put_eq, call_some, nzN, boN, nI_1, nI_add, pk_mul, lit_4, lit_16, le_T, le_F, lt_T, lt_F, eq_T, eq_F, le_T0, le_F0, lt_F0, lt_T0, eq_T0, eq_F0, eqm_F, up_s2, up_n2, Ev_some, nz_0, nz_1, if_true, if_false, reduceIte, and_true, true_and, and_false, false_and, b2_0, b2_1, Bool.true_eq_false, Bool.false_eq_true, not_true_eq_false, not_false_eq_true, e, Int32.add_zero]
    rw [f_X5_add_b3]
    simp (disch := omega) only [rdN, wrN, rdZ, wrZ, p_put_eq, call_some, nzN, boN, nI_1, nI_add, pk_mul, lit_4, lit_16, le_T, le_F, lt_T, lt_F, eq_T, eq_F, le_T0, le_F0, lt_F0, lt_T0, eq_T0, eq_F0, eqm_F, up_s2, up_n2, Ev_some, nz_0, nz_1, if_true, if_false, reduceIte, and_true, true_and, and_false, false_and, b2_0, b2_1, Bool.true_eq_false, Bool.false_eq_true, not_true_eq_false, not_false_eq_true, x_sideOf0 hz' hp hs]
    rcases sdv_ed hz.r hz.c he hp hs with ⟨-, b⟩ | ⟨-, j, j1, j9, b | b⟩
    · rw [b, show jabs 0 = nI 0 from by decide]
      simp (disch := omega) only [rdN, wrN, rdZ, wrZ, p_put_eq, call_some, nzN, boN, nI_1, nI_add, pk_mul, lit_4, lit_16, le_T, le_F, lt_T, lt_F, eq_T, eq_F, le_T0, le_F0, lt_F0, lt_T0, eq_T0, eq_F0, eqm_F, up_s2, up_n2, Ev_some, nz_0, nz_1, if_true, if_false, reduceIte, and_true, true_and, and_false, false_and, b2_0, b2_1, Bool.true_eq_false, Bool.false_eq_true, not_true_eq_false, not_false_eq_true, show ((0 : Int32) ≤ 0) = True from eq_true (by decide)]
      refine fin 0 x (by decide) (fun i hi => ?_)
      rw [b, adV, adT0 i hi]
      by_cases e : i = 0 <;> simp [e]
    · obtain ⟨t1, t2, t3, t4⟩ := jabsT j (by omega) j1
      rw [b, t3]
      simp (disch := omega) only [rdN, wrN, rdZ, wrZ, p_put_eq, call_some, nzN, boN, nI_1, nI_add, pk_mul, lit_4, lit_16, le_T, le_F, lt_T, lt_F, eq_T, eq_F, le_T0, le_F0, lt_F0, lt_T0, eq_T0, eq_F0, eqm_F, up_s2, up_n2, Ev_some, nz_0, nz_1, if_true, if_false, reduceIte, and_true, true_and, and_false, false_and, b2_0, b2_1, Bool.true_eq_false, Bool.false_eq_true, not_true_eq_false, not_false_eq_true, t4]
      refine fin j x (by omega) (fun i hi => ?_)
      rw [b, adV, adT1 j (by omega) i hi j1]
      by_cases e : i = j <;> simp [e]
    · obtain ⟨t1, t2, t3, t4⟩ := jabsT j (by omega) j1
      rw [b, t1]
      simp (disch := omega) only [rdN, wrN, rdZ, wrZ, p_put_eq, call_some, nzN, boN, nI_1, nI_add, pk_mul, lit_4, lit_16, le_T, le_F, lt_T, lt_F, eq_T, eq_F, le_T0, le_F0, lt_F0, lt_T0, eq_T0, eq_F0, eqm_F, up_s2, up_n2, Ev_some, nz_0, nz_1, if_true, if_false, reduceIte, and_true, true_and, and_false, false_and, b2_0, b2_1, Bool.true_eq_false, Bool.false_eq_true, not_true_eq_false, not_false_eq_true, t2]
      refine fin j (-x) (by omega) (fun i hi => ?_)
      rw [b, adV, adT2 j (by omega) i hi j1]
      by_cases e : i = j <;> simp [e]
theorem bal1_c (v : Int32) (j : Nat) : bal1 v j = 1 ∨ bal1 v j = -1 ∨ bal1 v j = 0 := by
  unfold bal1
  rcases Classical.propComplete (j = 0) with pc1 | pc1 <;> rcases Classical.propComplete (v = 0) with pc2 | pc2 <;> rcases Classical.propComplete (v = nI j) with pc3 | pc3 <;> rcases Classical.propComplete (v = -(nI j)) with pc4 | pc4 <;> simp [pc1, pc2, pc3, pc4, b2]
theorem adV_1 (v : Int32) (j : Nat) : adV 1 v j = bal1 v j := by
  unfold adV
  rcases bal1_c v j with e | e | e <;> rw [e] <;> decide
theorem adV_m (v : Int32) (j : Nat) : adV (-1) v j = -(bal1 v j) := by
  unfold adV
  rcases bal1_c v j with e | e | e <;> rw [e] <;> decide
theorem x_clearS {σ : Sg} {a0 : Nat} : Ev (f_X5_clear a0 10 σ) (fun _ υ => Fr a0 a0 σ υ ∧ ∀ i, i < 10 → υ a0 i = 0) := by
  refine lp_ev (L := fun n i υ => f_X5_clear_b2 a0 10 n (nI i) υ) (m := 10) (I := fun n υ => Fr a0 a0 σ υ ∧ ∀ i, i < n → υ a0 i = 0) (fun n υ h => ?_) (fun n i υ hi h ih => ?_) fu 0 σ (by decide) (fu_lt (by decide)) ⟨Fr.refl, fun i h => absurd h (Nat.not_lt_zero _)⟩
  · show Ev (f_X5_clear_b2 a0 10 (n + 1) (nI 10) υ) _
    simp (disch := omega) only [rdN, wrN, rdZ, wrZ, p_put_eq, call_some, nzN, boN, nI_1, nI_add, pk_mul, lit_4, lit_16, le_T, le_F, lt_T, lt_F, eq_T, eq_F, le_T0, le_F0, lt_F0, lt_T0, eq_T0, eq_F0, eqm_F, up_s2, up_n2, Ev_some, nz_0, nz_1, if_true, if_false, reduceIte, and_true, true_and, and_false, false_and, b2_0, b2_1, Bool.true_eq_false, Bool.false_eq_true, not_true_eq_false, not_false_eq_true, f_X5_clear_b2, show Int32.ofNat 10 = nI 10 from rfl]
    exact h
  · show Ev (f_X5_clear_b2 a0 10 (n + 1) (nI i) υ) _
    simp (disch := omega) only [rdN, wrN, rdZ, wrZ, p_put_eq, call_some, nzN, boN, nI_1, nI_add, pk_mul, lit_4, lit_16, le_T, le_F, lt_T, lt_F, eq_T, eq_F, le_T0, le_F0, lt_F0, lt_T0, eq_T0, eq_F0, eqm_F, up_s2, up_n2, Ev_some, nz_0, nz_1, if_true, if_false, reduceIte, and_true, true_and, and_false, false_and, b2_0, b2_1, Bool.true_eq_false, Bool.false_eq_true, not_true_eq_false, not_false_eq_true, f_X5_clear_b2, show Int32.ofNat 10 = nI 10 from rfl]
    refine ih _ ⟨h.1.up (by omega), fun j hj => ?_⟩
    by_cases e : j = i
    · simp (disch := omega) only [rdN, wrN, rdZ, wrZ, p_put_eq, call_some, nzN, boN, nI_1, nI_add, pk_mul, lit_4, lit_16, le_T, le_F, lt_T, lt_F, eq_T, eq_F, le_T0, le_F0, lt_F0, lt_T0, eq_T0, eq_F0, eqm_F, up_s2, up_n2, Ev_some, nz_0, nz_1, if_true, if_false, reduceIte, and_true, true_and, and_false, false_and, b2_0, b2_1, Bool.true_eq_false, Bool.false_eq_true, not_true_eq_false, not_false_eq_true, e]
    · simp (disch := omega) only [rdN, wrN, rdZ, wrZ, p_put_eq, call_some, nzN, boN, nI_1, nI_add, pk_mul, lit_4, lit_16, le_T, le_F, lt_T, lt_F, eq_T, eq_F, le_T0, le_F0, lt_F0, lt_T0, eq_T0, eq_F0, eqm_F, up_s2, up_n2, Ev_some, nz_0, nz_1, if_true, if_false, reduceIte, and_true, true_and, and_false, false_and, b2_0, b2_1, Bool.true_eq_false, Bool.false_eq_true, not_true_eq_false, not_false_eq_true, h.2 j (by omega)]
theorem x_weigh {σ : Sg} {k k1 r c : Nat} {ri dn : Nat → Int32} (hz : CutOk σ (k1 + 1) r c ri dn) (he : Ed ri dn) (hd : k + 2 < k1 ∨ k1 + 15 < k) : Ev (f_X5_weigh k k1 σ) (fun _ υ => Fr (k + 1) (k + 2) σ υ ∧ ∀ i, i < 10 → υ (k + 1) i = balA ri dn r c i ∧ υ (k + 2) i = balF ri dn (σ (k1 + 6 + 5)) r c i) := by
  have hrc := hz.rc
  unfold f_X5_weigh
  refine Ev.call x_clearS (fun _ υ1 ⟨f1, v1⟩ => ?_)
  refine Ev.call x_clearS (fun _ υ2 ⟨f2, v2⟩ => ?_)
  have fr0 : Fr (k + 1) (k + 2) σ υ2 := (f1.wide (by omega) (by omega)).trans (f2.wide (by omega) (by omega))
  refine lp_ev (L := fun n p υ => f_X5_weigh_b16 k k1 n (nI p) υ) (m := r * c) (I := fun p υ => Fr (k + 1) (k + 2) σ υ ∧ ∀ i, i < 10 → υ (k + 1) i = sm (fun p => balV ri dn r c p i) 0 p ∧ υ (k + 2) i = sm (fun p => if σ (k1 + 6 + 5) p = 0 then balV ri dn r c p i else 0) 0 p) (fun n υ h => ?_) (fun n p υ hp h ih => ?_) fu 0 υ2 (Nat.zero_le _) (fu_lt (by omega)) ⟨fr0, fun i hi => ⟨?_, ?_⟩⟩
  · show Ev (f_X5_weigh_b16 k k1 (n + 1) (nI (r * c)) υ) _
    have hz' : CutOk υ (k1 + 1) r c ri dn := hz.fr (fun j hj => h.1 _ (by omega))
    simp (disch := omega) only [rdN, wrN, rdZ, wrZ, p_put_eq, call_some, nzN, boN, nI_1, nI_add, pk_mul, lit_4, lit_16, le_T, le_F, lt_T, lt_F, eq_T, eq_F, le_T0, le_F0, lt_F0, lt_T0, eq_T0, eq_F0, eqm_F, up_s2, up_n2, Ev_some, nz_0, nz_1, if_true, if_false, reduceIte, and_true, true_and, and_false, false_and, b2_0, b2_1, Bool.true_eq_false, Bool.false_eq_true, not_true_eq_false, not_false_eq_true, f_X5_weigh_b16, hz'.n]
    exact h
  · show Ev (f_X5_weigh_b16 k k1 (n + 1) (nI p) υ) _
    obtain ⟨hf, hv⟩ := h
    have hz' : CutOk υ (k1 + 1) r c ri dn := hz.fr (fun j hj => hf _ (by omega))
    rw [f_X5_weigh_b16]
    simp (disch := omega) only [rdN, wrN, rdZ, wrZ, p_put_eq, call_some, nzN, boN, nI_1, nI_add, pk_mul, lit_4, lit_16, le_T, le_F, lt_T, lt_F, eq_T, eq_F, le_T0, le_F0, lt_F0, lt_T0, eq_T0, eq_F0, eqm_F, up_s2, up_n2, Ev_some, nz_0, nz_1, if_true, if_false, reduceIte, and_true, true_and, and_false, false_and, b2_0, b2_1, Bool.true_eq_false, Bool.false_eq_true, not_true_eq_false, not_false_eq_true, hz'.n]
    have bv : ∀ i, sm (fun s => adV 1 (sdv ri dn r c p s) i) 0 4 = balV ri dn r c p i := fun i => sm_congr _ _ (fun s _ _ => adV_1 _ _)
    refine Ev.call (x_add hz' he (by omega) hp) (fun _ φ ⟨g, w⟩ => ?_)
    have hl : φ (k1 + 6 + 5) = σ (k1 + 6 + 5) := (g _ (by omega)).trans (hf _ (by omega))
    simp (disch := omega) only [rdN, wrN, rdZ, wrZ, p_put_eq, call_some, nzN, boN, nI_1, nI_add, pk_mul, lit_4, lit_16, le_T, le_F, lt_T, lt_F, eq_T, eq_F, le_T0, le_F0, lt_F0, lt_T0, eq_T0, eq_F0, eqm_F, up_s2, up_n2, Ev_some, nz_0, nz_1, if_true, if_false, reduceIte, and_true, true_and, and_false, false_and, b2_0, b2_1, Bool.true_eq_false, Bool.false_eq_true, not_true_eq_false, not_false_eq_true, hl]
    by_cases hlo : σ (k1 + 6 + 5) p = 0
    · rw [if_pos hlo]
      have hz2 : CutOk φ (k1 + 1) r c ri dn := hz'.fr (fun j hj => g _ (by omega))
      refine Ev.call (x_add hz2 he (by omega) hp) (fun _ ψ ⟨g2, w2⟩ => ?_)
      rw [f_X5_weigh_b65, nI_1]
      refine ih ψ ⟨(hf.trans (g.wide (by omega) (by omega))).trans (g2.wide (by omega) (by omega)), fun i hi => ⟨?_, ?_⟩⟩
      · rw [g2 (k + 1) (by omega), w i hi, (hv i hi).1, bv, sm_snoc, Nat.zero_add]
      · rw [w2 i hi, g (k + 2) (by omega), (hv i hi).2, bv, sm_snoc, Nat.zero_add, if_pos hlo]
    · rw [if_neg hlo, f_X5_weigh_b65, nI_1]
      refine ih φ ⟨hf.trans (g.wide (by omega) (by omega)), fun i hi => ⟨?_, ?_⟩⟩
      · rw [w i hi, (hv i hi).1, bv, sm_snoc, Nat.zero_add]
      · rw [g (k + 2) (by omega), (hv i hi).2, sm_snoc, Nat.zero_add, if_neg hlo, Int32.add_zero]
  · rw [f2 (k + 1) (by omega), v1 i hi]; rfl
  · rw [v2 i hi]; rfl
