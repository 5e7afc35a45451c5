/-! the class's isShort and suspects are the reference's doesLack and which -/
def shB (A H : Nat → Int32) : Bool := (ff (fun j => !decide (H j = 0)) 1 9).isSome || !decide (A 0 ≤ H 0)
theorem x_isShort {σ : Sg} {k : Nat} : f_X5_isShort k σ = some (b2 (shB (σ (k + 1)) (σ (k + 2))), σ) := by
  have h := lp_ff (L := fun n j => f_X5_isShort_b2 k n (nI j) σ) (m := 10) (p := fun j => !decide (σ (k + 2) j = 0)) (E := some (b2 (!decide (σ (k + 1) 0 ≤ σ (k + 2) 0)), σ)) (F := fun _ => some (1, σ)) (fun n => by
    show f_X5_isShort_b2 k (n + 1) (nI 10) σ = _
    simp (disch := omega) only [rdN, wrN, rdZ, wrZ, p_put_eq, call_some, nzN, boN, nI_1, nI_add, pk_mul, lit_4, lit_16, le_T, le_F, lt_T, lt_F, eq_T, eq_F, le_T0, le_F0, lt_F0, lt_T0, eq_T0, eq_F0, eqm_F, up_s2, up_n2, Ev_some, nz_0, nz_1, if_true, if_false, reduceIte, and_true, true_and, and_false, false_and, b2_0, b2_1, Bool.true_eq_false, Bool.false_eq_true, not_true_eq_false, not_false_eq_true, f_X5_isShort_b2, L9]
    rcases Classical.propComplete (σ (k + 1) 0 ≤ σ (k + 2) 0) with pc1 | pc1 <;> simp [pc1, b2]) (fun n j hj => by
    show f_X5_isShort_b2 k (n + 1) (nI j) σ = if _ then _ else f_X5_isShort_b2 k n (nI (j + 1)) σ
    simp (disch := omega) only [rdN, wrN, rdZ, wrZ, p_put_eq, call_some, nzN, boN, nI_1, nI_add, pk_mul, lit_4, lit_16, le_T, le_F, lt_T, lt_F, eq_T, eq_F, le_T0, le_F0, lt_F0, lt_T0, eq_T0, eq_F0, eqm_F, up_s2, up_n2, Ev_some, nz_0, nz_1, if_true, if_false, reduceIte, and_true, true_and, and_false, false_and, b2_0, b2_1, Bool.true_eq_false, Bool.false_eq_true, not_true_eq_false, not_false_eq_true, f_X5_isShort_b2, L9]
    rcases Classical.propComplete (σ (k + 2) j = 0) with pc1 | pc1 <;> simp [pc1, b2]) fu 1 (by decide) (fu_lt (by decide))
  unfold shB
  refine Eq.trans h ?_
  show (match ff (fun j => !decide (σ (k + 2) j = 0)) 1 9 with
    | none => some (b2 (!decide (σ (k + 1) 0 ≤ σ (k + 2) 0)), σ)
    | some _ => some (1, σ)) = _
  cases ff (fun j => !decide (σ (k + 2) j = 0)) 1 9 <;> simp [b2]
theorem x_isAsHere {σ : Sg} {k : Nat} : f_X5_isAsHere k σ = some (b2 (al (fun j => decide (σ (k + 3) j = σ (k + 2) j)) 0 10), σ) := by
  have h := lp_ff (L := fun n j => f_X5_isAsHere_b2 k n (nI j) σ) (m := 10) (p := fun j => !decide (σ (k + 3) j = σ (k + 2) j)) (E := some (1, σ)) (F := fun _ => some (0, σ)) (fun n => by
    show f_X5_isAsHere_b2 k (n + 1) (nI 10) σ = _
    simp (disch := omega) only [rdN, wrN, rdZ, wrZ, p_put_eq, call_some, nzN, boN, nI_1, nI_add, pk_mul, lit_4, lit_16, le_T, le_F, lt_T, lt_F, eq_T, eq_F, le_T0, le_F0, lt_F0, lt_T0, eq_T0, eq_F0, eqm_F, up_s2, up_n2, Ev_some, nz_0, nz_1, if_true, if_false, reduceIte, and_true, true_and, and_false, false_and, b2_0, b2_1, Bool.true_eq_false, Bool.false_eq_true, not_true_eq_false, not_false_eq_true, f_X5_isAsHere_b2, L9]) (fun n j hj => by
    show f_X5_isAsHere_b2 k (n + 1) (nI j) σ = if _ then _ else f_X5_isAsHere_b2 k n (nI (j + 1)) σ
    simp (disch := omega) only [rdN, wrN, rdZ, wrZ, p_put_eq, call_some, nzN, boN, nI_1, nI_add, pk_mul, lit_4, lit_16, le_T, le_F, lt_T, lt_F, eq_T, eq_F, le_T0, le_F0, lt_F0, lt_T0, eq_T0, eq_F0, eqm_F, up_s2, up_n2, Ev_some, nz_0, nz_1, if_true, if_false, reduceIte, and_true, true_and, and_false, false_and, b2_0, b2_1, Bool.true_eq_false, Bool.false_eq_true, not_true_eq_false, not_false_eq_true, f_X5_isAsHere_b2, L9]
    rcases Classical.propComplete (σ (k + 3) j = σ (k + 2) j) with pc1 | pc1 <;> simp [pc1, b2]) fu 0 (by decide) (fu_lt (by decide))
  refine Eq.trans h ?_
  have key : ∀ (p : Nat → Bool) (n i : Nat), (ff (fun j => !(p j)) i n).isNone = al p i n := by
    intro p n
    induction n with
    | zero => intro i; rfl
    | succ n ih =>
      intro i
      unfold ff al
      rw [← ih (i + 1)]
      by_cases hp : p i = true <;> simp [hp]
  rw [← key (fun j => decide (σ (k + 3) j = σ (k + 2) j)) 10 0, Nat.sub_zero]
  cases ff (fun j => !decide (σ (k + 3) j = σ (k + 2) j)) 0 10 <;> rfl
theorem sm_wo {g : Nat → Int32} {p : Nat} : ∀ (n i : Nat), i ≤ p → p < i + n → sm g i n = sm (fun q => if q = p then 0 else g q) i n + g p
  | 0, i, a, b => by omega
  | n + 1, i, a, b => by
    unfold sm
    by_cases e : i = p
    · subst e
      rw [if_pos rfl, Int32.zero_add, Int32.add_comm, sm_congr (g := fun q => if q = i then 0 else g q) (h := g) n (i + 1) (fun j h1 h2 => if_neg (by omega))]
    · rw [if_neg e, sm_wo (p := p) n (i + 1) (by omega) (by omega), Int32.add_assoc]
theorem i_cancel (x y : Int32) : x + y + -y = x := by rw [Int32.add_assoc, Int32.add_right_neg, Int32.add_zero]
theorem sm_neg {g : Nat → Int32} : ∀ (n i : Nat), sm (fun j => -(g j)) i n = -(sm g i n)
  | 0, _ => by unfold sm; decide
  | n + 1, i => by
    unfold sm
    rw [sm_neg n (i + 1), Int32.neg_add, Int32.sub_eq_add_neg]
theorem x_suspects {σ : Sg} {k k1 r c : Nat} {ri dn lo : Nat → Int32} (hz : CutOk σ k1 r c ri dn) (he : Ed ri dn) (hd : k + 3 < k1 ∨ k1 + 4 < k) (hA : ∀ i, i < 10 → σ (k + 1) i = balA ri dn r c i ∧ σ (k + 2) i = balF ri dn lo r c i) : Ev (f_X5_suspects k k1 σ) (fun a υ => Fr (k + 3) (k + 3) σ υ ∧ a = bitsV (susB ri dn lo r c) 0 (r * c) 0) := by
  have hrc := hz.rc
  refine lp_ev (A := Int32 × Sg) (L := fun n p x => f_X5_suspects_b4 k k1 n x.1 (nI p) x.2) (m := r * c) (I := fun p x => Fr (k + 3) (k + 3) σ x.2 ∧ bitsV (susB ri dn lo r c) p (r * c - p) x.1 = bitsV (susB ri dn lo r c) 0 (r * c) 0) (fun n x h => ?_) (fun n p x hp h ih => ?_) fu 0 (0, σ) (Nat.zero_le _) (fu_lt (by omega)) ⟨Fr.refl, rfl⟩
  · obtain ⟨a, υ⟩ := x
    show Ev (f_X5_suspects_b4 k k1 (n + 1) a (nI (r * c)) υ) _
    have hz' : CutOk υ k1 r c ri dn := hz.fr (fun j hj => h.1 _ (by omega))
    simp (disch := omega) only [rdN, wrN, rdZ, wrZ, p_put_eq, call_some, nzN, boN, nI_1, nI_add, pk_mul, lit_4, lit_16, le_T, le_F, lt_T, lt_F, eq_T, eq_F, le_T0, le_F0, lt_F0, lt_T0, eq_T0, eq_F0, eqm_F, up_s2, up_n2, Ev_some, nz_0, nz_1, if_true, if_false, reduceIte, and_true, true_and, and_false, false_and, b2_0, b2_1, Bool.true_eq_false, Bool.false_eq_true, not_true_eq_false, not_false_eq_true, f_X5_suspects_b4, hz'.n]
    rw [Nat.sub_self] at h
    exact h
  · obtain ⟨a, υ⟩ := x
    obtain ⟨hf, hb⟩ := h
    show Ev (f_X5_suspects_b4 k k1 (n + 1) a (nI p) υ) _
    have hf' : Fr (k + 3) (k + 3) σ υ := hf
    have hz' : CutOk υ k1 r c ri dn := hz.fr (fun j hj => hf' _ (by omega))
    rw [f_X5_suspects_b4]
    simp (disch := omega) only [rdN, wrN, rdZ, wrZ, p_put_eq, call_some, nzN, boN, nI_1, nI_add, pk_mul, lit_4, lit_16, le_T, le_F, lt_T, lt_F, eq_T, eq_F, le_T0, le_F0, lt_F0, lt_T0, eq_T0, eq_F0, eqm_F, up_s2, up_n2, Ev_some, nz_0, nz_1, if_true, if_false, reduceIte, and_true, true_and, and_false, false_and, b2_0, b2_1, Bool.true_eq_false, Bool.false_eq_true, not_true_eq_false, not_false_eq_true, hz'.n]
    rw [cpyN (n := 10) (x := 10) rfl (by decide) (by decide) (by decide)]
    have hz2 : CutOk (sg_row υ (k + 3) (va_cpy (υ (k + 1)) (υ (k + 3)) 0 0 10)) k1 r c ri dn := hz'.fr (fun j hj => row_n (by omega))
    refine Ev.call (x_add hz2 he (by omega) hp) (fun _ φ ⟨g, w⟩ => ?_)
    have e1 : φ (k + 1) = σ (k + 1) := by rw [g (k + 1) (by omega), row_n (by omega), hf' _ (by omega)]
    have e2 : φ (k + 2) = σ (k + 2) := by rw [g (k + 2) (by omega), row_n (by omega), hf' _ (by omega)]
    have e3 : ∀ j, j < 10 → φ (k + 3) j = balX ri dn r c p j := fun j hj => by
      rw [w j hj, row_s rfl, cpy_in hj, hf' (k + 1) (by omega), (hA j hj).1, sm_congr (h := fun s => -(bal1 (sdv ri dn r c p s) j)) 4 0 (fun s _ _ => adV_m _ _), sm_neg]
      unfold balA balX
      rw [sm_wo (p := p) (r * c) 0 (Nat.zero_le _) (by omega)]
      exact i_cancel _ _
    rw [x_isAsHere, call_some]
    have e4 : al (fun j => decide (φ (k + 3) j = φ (k + 2) j)) 0 10 = susB ri dn lo r c p := by
      unfold susB
      have : ∀ (f g : Nat → Bool) (n i : Nat), (∀ j, i ≤ j → j < i + n → f j = g j) → al f i n = al g i n := by
        intro f g n
        induction n with
        | zero => intro i _; rfl
        | succ n ih2 =>
          intro i e
          unfold al
          rw [e i (by omega) (by omega), ih2 (i + 1) (fun j a b => e j (by omega) (by omega))]
      refine this _ _ 10 0 (fun j _ hj => ?_)
      show decide (φ (k + 3) j = φ (k + 2) j) = decide (balX ri dn r c p j = balF ri dn lo r c j)
      rw [e3 j (by omega), e2, (hA j (by omega)).2]
    rw [e4]
    have fr : Fr (k + 3) (k + 3) σ φ := (hf'.row (by omega)).trans g
    rw [show r * c - p = (r * c - (p + 1)) + 1 by omega, bitsV] at hb
    unfold f_X5_suspects_b53
    by_cases hs : susB ri dn lo r c p = true
    · rw [if_pos hs] at hb
      rw [hs, if_neg (by decide), nI_1]
      exact ih (a ||| (1 <<< (nI p &&& 31)), φ) ⟨fr, hb⟩
    · rw [if_neg hs] at hb
      rw [if_pos (by rw [b2_0]; simpa using hs), nI_1]
      exact ih (a, φ) ⟨fr, hb⟩
theorem bal1_neg {v : Int32} {j : Nat} (h : 1 ≤ j ∧ j ≤ 9) : bal1 (-v) j = -(bal1 v j) := by
  have k1 : ∀ j, j < 10 → 1 ≤ j → ¬ nI j = -(nI j) ∧ ¬ j = 0 := by decide +kernel
  obtain ⟨n1, n2⟩ := k1 j (by omega) h.1
  have e1 : (-v = nI j) = (v = -(nI j)) := propext ⟨fun e => by rw [← e, Int32.neg_neg], fun e => by rw [e, Int32.neg_neg]⟩
  have e2 : (-v = -(nI j)) = (v = nI j) := propext ⟨fun e => by rw [← Int32.neg_neg (a := v), e, Int32.neg_neg], fun e => by rw [e]⟩
  unfold bal1
  simp only [n2, if_false, e1, e2]
  by_cases a : v = nI j
  · rw [if_neg (fun b => n1 (a.symm.trans b)), if_pos a, if_pos a]
  · by_cases b : v = -(nI j)
    · rw [if_pos b, if_neg a, if_pos b]; decide
    · rw [if_neg b, if_neg a, if_neg a, if_neg b]; decide
theorem bal1_z {j : Nat} (h : 1 ≤ j ∧ j ≤ 9) : bal1 0 j = 0 := by
  rw [adT0 j (by omega), if_neg (by omega)]
theorem balA_0 {ri dn : Nat → Int32} {r c j : Nat} (h1 : 2 ≤ r ∧ r < 5) (h2 : 2 ≤ c ∧ c < 5) (hj : 1 ≤ j ∧ j ≤ 9) : balA ri dn r c j = 0 := by
  have n : ∀ v, bal1 (-v) j = -(bal1 v j) := fun v => bal1_neg hj
  have z := bal1_z hj
  rcases (show r = 2 ∨ r = 3 ∨ r = 4 by omega) with rfl | rfl | rfl <;> rcases (show c = 2 ∨ c = 3 ∨ c = 4 by omega) with rfl | rfl | rfl
  all_goals (simp [balA, balV, sm, sdv, bs, n, z]; grind)
/-- sums of small numbers, one not above the other -/
theorem sm_small {g h : Nat → Int32} {b : Nat} : ∀ (n i : Nat), (∀ j, i ≤ j → j < i + n → ∃ x y : Nat, g j = nI x ∧ h j = nI y ∧ x ≤ y ∧ y ≤ b) → ∃ x y : Nat, sm g i n = nI x ∧ sm h i n = nI y ∧ x ≤ y ∧ y ≤ b * n
  | 0, _, _ => ⟨0, 0, rfl, rfl, Nat.le_refl _, Nat.zero_le _⟩
  | n + 1, i, e => by
    obtain ⟨x, y, a1, a2, a3, a4⟩ := e i (by omega) (by omega)
    obtain ⟨x', y', b1, b2, b3, b4⟩ := sm_small n (i + 1) (fun j u v => e j (by omega) (by omega))
    exact ⟨x + x', y + y', by unfold sm; rw [a1, b1, nI_add], by unfold sm; rw [a2, b2, nI_add], by omega, by rw [Nat.mul_succ]; omega⟩
theorem flats {ri dn lo : Nat → Int32} {r c : Nat} (hrc : r * c ≤ 16) : ∃ x y : Nat, balF ri dn lo r c 0 = nI x ∧ balA ri dn r c 0 = nI y ∧ x ≤ y ∧ y ≤ 64 := by
  have bv : ∀ p, ∃ x : Nat, balV ri dn r c p 0 = nI x ∧ x ≤ 4 := fun p => by
    obtain ⟨x, y, a, b, u, v⟩ := sm_small (g := fun s => bal1 (sdv ri dn r c p s) 0) (h := fun s => bal1 (sdv ri dn r c p s) 0) (b := 1) 4 0 (fun s _ _ => by
      unfold bal1
      by_cases e : sdv ri dn r c p s = 0
      · exact ⟨1, 1, by simp [e]; rfl, by simp [e]; rfl, Nat.le_refl _, Nat.le_refl _⟩
      · exact ⟨0, 0, by simp [e]; rfl, by simp [e]; rfl, Nat.le_refl _, by decide⟩)
    exact ⟨x, a, by omega⟩
  obtain ⟨x, y, a, b, u, v⟩ := sm_small (g := fun p => if lo p = 0 then balV ri dn r c p 0 else 0) (h := fun p => balV ri dn r c p 0) (b := 4) (r * c) 0 (fun p _ _ => by
    obtain ⟨x, e, l⟩ := bv p
    by_cases h : lo p = 0
    · exact ⟨x, x, by simp [h, e], e, Nat.le_refl _, l⟩
    · exact ⟨0, x, by simp [h]; rfl, e, Nat.zero_le _, l⟩)
  exact ⟨x, y, a, b, u, by omega⟩
theorem sh_eq {ri dn lo A H : Nat → Int32} {r c : Nat} (h1 : 2 ≤ r ∧ r < 5) (h2 : 2 ≤ c ∧ c < 5) (hA : ∀ i, i < 10 → A i = balA ri dn r c i ∧ H i = balF ri dn lo r c i) : shB A H = lackB ri dn lo r c := by
  obtain ⟨x, y, a, b, u, v⟩ := flats (ri := ri) (dn := dn) (lo := lo) (rc16 h1 h2)
  unfold shB lackB
  have e0 : (!decide (A 0 ≤ H 0)) = !decide (balF ri dn lo r c 0 = balA ri dn r c 0) := by
    rw [(hA 0 (by decide)).1, (hA 0 (by decide)).2, a, b]
    congr 1
    refine decide_eq_decide.mpr ?_
    rw [nI_leI (by omega) (by omega), nI_eq (by omega) (by omega)]
    omega
  have e1 : ff (fun j => !decide (H j = 0)) 1 9 = ff (fun j => !decide (balF ri dn lo r c j = balA ri dn r c j)) 1 9 := ff_congr 9 1 (fun j q1 q2 => by
    show (!decide (H j = 0)) = _
    rw [(hA j (by omega)).2, balA_0 h1 h2 (by omega)])
  rw [e0, e1]
  have e2 : ff (fun j => !decide (balF ri dn lo r c j = balA ri dn r c j)) 0 10 = if (!decide (balF ri dn lo r c 0 = balA ri dn r c 0)) = true then some 0 else ff (fun j => !decide (balF ri dn lo r c j = balA ri dn r c j)) 1 9 := rfl
  rw [e2]
  generalize ff (fun j => !decide (balF ri dn lo r c j = balA ri dn r c j)) 1 9 = o
  by_cases h : balF ri dn lo r c 0 = balA ri dn r c 0
  · simp [h]
  · simp [h]
