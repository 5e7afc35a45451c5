/-! the work: the order of the cells -/
/-- a list of cells held at cell a, its length at slot s of k -/
def OL (σ : Sg) (k s a : Nat) (L : List Nat) : Prop := σ k s = nI L.length ∧ ∀ j, j < L.length → σ a j = nI (L.getD j 0)
theorem getD_app {L : List Nat} {x j : Nat} (h : j < L.length) : (L ++ [x]).getD j 0 = L.getD j 0 := by
  simp [List.getD, List.getElem?_append_left h]
theorem getD_last {L : List Nat} {x : Nat} : (L ++ [x]).getD L.length 0 = x := by
  simp [List.getD]
theorem OL.add {σ : Sg} {k s a x : Nat} {L : List Nat} (h : OL σ k s a L) (ha : a ≠ k) : OL (sg_up (sg_up σ a L.length (nI x)) k s (nI (L.length + 1))) k s a (L ++ [x]) := by
  refine ⟨by rw [up_s2 ⟨rfl, rfl⟩, List.length_append]; rfl, fun j hj => ?_⟩
  rw [List.length_append, List.length_singleton] at hj
  by_cases e : j = L.length
  · subst e
    rw [up_n2 (by omega), up_s2 ⟨rfl, rfl⟩, getD_last]
  · rw [up_n2 (by omega), up_n2 (by omega), h.2 j (by omega), getD_app (by omega)]
def ordC (a b : Bool) (r c : Nat) (pc : Nat → Int32) : Nat → Bool := fun q => (if rim r c q = true then a else b) && !(fl pc q)
theorem filt_s {P : Nat → Bool} {q : Nat} : (List.range (q + 1)).filter P = (List.range q).filter P ++ (if P q = true then [q] else []) := by
  rw [List.range_succ, List.filter_append]
  by_cases h : P q = true <;> simp [h]
theorem x_addCells {σ : Sg} {k r c : Nat} {ri dn : Nat → Int32} {a b : Bool} {L0 : List Nat} (hz : CutOk σ (k + 2) r c ri dn) (hO : OL σ k 4 (k + 17) L0) (hb : ∀ q, q < r * c → ordC a b r c (σ (k + 8)) q = true → L0.length + ((List.range q).filter (ordC a b r c (σ (k + 8)))).length < 16) : Ev (f_X9_addCells k (b2 a) (b2 b) σ) (fun _ υ => (∀ x, x ≠ k → x ≠ k + 17 → υ x = σ x) ∧ (∀ y, y ≠ 4 → υ k y = σ k y) ∧ OL υ k 4 (k + 17) (L0 ++ (List.range (r * c)).filter (ordC a b r c (σ (k + 8))))) := by
  have hrc := hz.rc
  refine lp_ev (L := fun n q υ => f_X9_addCells_b2 k n (b2 a) (b2 b) (nI q) υ) (m := r * c) (I := fun q υ => (∀ x, x ≠ k → x ≠ k + 17 → υ x = σ x) ∧ (∀ y, y ≠ 4 → υ k y = σ k y) ∧ OL υ k 4 (k + 17) (L0 ++ (List.range q).filter (ordC a b r c (σ (k + 8))))) (fun n υ h => ?_) (fun n q υ hq h ih => ?_) fu 0 σ (Nat.zero_le _) (fu_lt (by omega)) ⟨fun _ _ _ => rfl, fun _ _ => rfl, by rw [List.range_zero, List.filter_nil, List.append_nil]; exact hO⟩
  · show Ev (f_X9_addCells_b2 k (n + 1) (b2 a) (b2 b) (nI (r * c)) υ) _
    have hz' : CutOk υ (k + 2) r c ri dn := hz.fr (fun j hj => h.1 _ (by omega) (by omega))
    rw [f_X9_addCells_b2, show υ (k + 1 + 1) 2 = nI (r * c) from hz'.n]
    simp (disch := omega) only [rdN, wrN, rdZ, wrZ, p_put_eq, call_some, nzN, boN, nI_1, nI_add, pk_mul, lit_4, lit_16, le_T, le_F, lt_T, lt_F, eq_T, eq_F, le_T0, le_F0, lt_F0, lt_T0, eq_T0, eq_F0, eqm_F, up_s2, up_n2, Ev_some, nz_0, nz_1, if_true, if_false, reduceIte, and_true, true_and, and_false, false_and, b2_0, b2_1, Bool.true_eq_false, Bool.false_eq_true, not_true_eq_false, not_false_eq_true]
    exact h
  · show Ev (f_X9_addCells_b2 k (n + 1) (b2 a) (b2 b) (nI q) υ) _
    obtain ⟨h1, h2, h3⟩ := h
    have hz' : CutOk υ (k + 2) r c ri dn := hz.fr (fun j hj => h1 _ (by omega) (by omega))
    have hq16 : q < 16 := by omega
    have hrm : υ (k + 1 + 1 + 3) q = b2 (rim r c q) := hz'.2.2.2.2.2.2 q hq
    have e8 : υ (k + 1 + 6 + 1) = σ (k + 8) := h1 (k + 8) (by omega) (by omega)
    have efl : f_X0_isFilled (k + 1 + 6) (nI q) υ = some (b2 (fl (σ (k + 8)) q), υ) := by rw [x_isFilled hq16, e8]
    rw [f_X9_addCells_b2, show υ (k + 1 + 1) 2 = nI (r * c) from hz'.n, if_neg (nI_ge (by omega) (by omega)), rdN (by omega) (by decide), hrm]
    have key : Ev (f_X9_addCells_b36 k (f_X9_addCells_b2 k n) (b2 a) (b2 b) (nI q) (b2 (if rim r c q = true then a else b)) υ) (fun _ υ => (∀ x, x ≠ k → x ≠ k + 17 → υ x = σ x) ∧ (∀ y, y ≠ 4 → υ k y = σ k y) ∧ OL υ k 4 (k + 17) (L0 ++ (List.range (r * c)).filter (ordC a b r c (σ (k + 8))))) := by
      unfold f_X9_addCells_b36 f_X9_addCells_b77
      rw [efl, call_some, nI_1]
      have hP : ordC a b r c (σ (k + 8)) q = ((if rim r c q = true then a else b) && !(fl (σ (k + 8)) q)) := rfl
      generalize (if rim r c q = true then a else b) = ab at hP
      cases ab with
      | false =>
        rw [if_pos (show b2 false = 0 from rfl)]
        refine ih υ ⟨h1, h2, ?_⟩
        rw [filt_s, hP, Bool.false_and, if_neg (by decide), List.append_nil]
        exact h3
      | true =>
        rw [if_neg (show ¬ b2 true = 0 by decide)]
        cases hf : fl (σ (k + 8)) q with
        | true =>
          rw [if_neg (show ¬ b2 true = 0 by decide)]
          refine ih υ ⟨h1, h2, ?_⟩
          rw [filt_s, hP, hf]
          simp only [Bool.not_true, Bool.and_false, Bool.false_eq_true, if_false, List.append_nil]
          exact h3
        | false =>
          have hPt : ordC a b r c (σ (k + 8)) q = true := by rw [hP, hf]; rfl
          have hlen := hb q hq hPt
          rw [if_pos (show b2 false = 0 from rfl), h3.1, wrN (by rw [List.length_append]; omega) (by decide), p_put_eq, up_n2 (by omega), h3.1, nI_1]
          refine ih _ ⟨fun x y z => by rw [up_a y, up_a z]; exact h1 x y z, fun y hy => by rw [up_n2 (by omega), up_n2 (by omega)]; exact h2 y hy, ?_⟩
          rw [filt_s, hPt, if_pos rfl, ← List.append_assoc]
          exact h3.add (by omega)
    cases hr : rim r c q with
    | false =>
      rw [hr] at key
      rw [if_pos (show b2 false = 0 from rfl)]
      exact key
    | true =>
      rw [hr] at key
      rw [if_neg (show ¬ b2 true = 0 by decide)]
      exact key
/-- early cells come first: all, or by rule 1 those of the rim -/
def erl (u r c q : Nat) : Bool := !(decide (u = 1)) || rim r c q
def ordR (u r c pt : Nat) (pc : Nat → Int32) : Nat → Bool := fun q => !(flR pc q) && (erl u r c q == decide (pt = 0))
def ordL (u r c : Nat) (pc : Nat → Int32) : List Nat := (List.range (r * c)).filter (ordR u r c 0 pc) ++ (List.range (r * c)).filter (ordR u r c 1 pc)
theorem filt_le {P : Nat → Bool} : ∀ n, ((List.range n).filter P).length ≤ n
  | 0 => by simp
  | n + 1 => by
    have := filt_le (P := P) n
    rw [filt_s, List.length_append]
    by_cases h : P n = true
    · rw [if_pos h, List.length_singleton]; omega
    · rw [if_neg h, List.length_nil]; omega
theorem filt_mono {P : Nat → Bool} {n q : Nat} (hq : q < n) (h : P q = true) : ((List.range q).filter P).length + 1 ≤ ((List.range n).filter P).length := by
  induction n with
  | zero => omega
  | succ n ih =>
    rw [filt_s (q := n), List.length_append]
    by_cases e : q = n
    · subst e
      rw [if_pos h, List.length_singleton]; omega
    · have := ih (by omega)
      omega
theorem filt_two {P Q : Nat → Bool} (h : ∀ q, P q = true → Q q = true → False) : ∀ n, ((List.range n).filter P).length + ((List.range n).filter Q).length ≤ n
  | 0 => by simp
  | n + 1 => by
    have := filt_two h n
    rw [filt_s, filt_s, List.length_append, List.length_append]
    by_cases hp : P n = true
    · rw [if_pos hp, if_neg (fun hq => h n hp hq), List.length_singleton, List.length_nil]; omega
    · rw [if_neg hp, List.length_nil]
      by_cases hq : Q n = true
      · rw [if_pos hq, List.length_singleton]; omega
      · rw [if_neg hq, List.length_nil]; omega
theorem ordR_two {u r c : Nat} {pc : Nat → Int32} {q : Nat} (h1 : ordR u r c 0 pc q = true) (h2 : ordR u r c 1 pc q = true) : False := by
  unfold ordR at h1 h2
  cases flR pc q <;> cases erl u r c q <;> simp_all
theorem ordL_le {u r c : Nat} {pc : Nat → Int32} : (ordL u r c pc).length ≤ r * c := by
  unfold ordL
  rw [List.length_append]
  exact filt_two (fun q => ordR_two) _
theorem ordL_mem {u r c q : Nat} {pc : Nat → Int32} (h : q ∈ ordL u r c pc) : q < r * c ∧ flR pc q = false := by
  unfold ordL at h
  rw [List.mem_append, List.mem_filter, List.mem_filter, List.mem_range] at h
  rcases h with ⟨a, b⟩ | ⟨a, b⟩
  · refine ⟨a, ?_⟩
    unfold ordR at b
    cases hf : flR pc q
    · rfl
    · rw [hf] at b; simp at b
  · refine ⟨a, ?_⟩
    unfold ordR at b
    cases hf : flR pc q
    · rfl
    · rw [hf] at b; simp at b
theorem ordL_nd {u r c : Nat} {pc : Nat → Int32} : (ordL u r c pc).Nodup := by
  unfold ordL
  rw [List.nodup_append]
  refine ⟨List.Pairwise.filter _ List.nodup_range, List.Pairwise.filter _ List.nodup_range, fun a ha b hb e => ?_⟩
  subst e
  rw [List.mem_filter] at ha hb
  exact ordR_two ha.2 hb.2
theorem getD_mem {L : List Nat} {j : Nat} (h : j < L.length) : L.getD j 0 ∈ L := by
  rw [List.getD_eq_getElem?_getD, List.getElem?_eq_getElem h]
  exact List.getElem_mem h
theorem getD_inj {L : List Nat} (hn : L.Nodup) {i j : Nat} (hi : i < L.length) (hj : j < L.length) (e : L.getD i 0 = L.getD j 0) : i = j := by
  rw [List.getD_eq_getElem?_getD, List.getElem?_eq_getElem hi, List.getD_eq_getElem?_getD, List.getElem?_eq_getElem hj] at e
  exact (List.getElem_inj hn).mp e
theorem y_findOrder {τ : Sg} {k r c u : Nat} (hz : Sz τ k r c) (hu : u < 5) : Ev (f_X11_findOrder k (nI u) τ) (fun _ υ => (∀ x, x ≠ k → x ≠ k + 21 → υ x = τ x) ∧ (∀ y, y ≠ 35 → υ k y = τ k y) ∧ OL υ k 35 (k + 21) (ordL u r c (τ (k + 5)))) := by
  have hrc := hz.rc
  unfold f_X11_findOrder
  rw [p_put_eq]
  -- one part
  have part : ∀ (pt : Nat) (R : Int32 → Int32 → Sg → Rs) (L0 : List Nat) (υ0 : Sg) (Q : Int32 → Sg → Prop), pt < 2 → (∀ x, x ≠ k → x ≠ k + 21 → υ0 x = τ x) → (∀ y, y ≠ 35 → υ0 k y = τ k y) → OL υ0 k 35 (k + 21) L0 → (∀ q, q < r * c → ordR u r c pt (τ (k + 5)) q = true → L0.length + ((List.range q).filter (ordR u r c pt (τ (k + 5)))).length < 16) → (∀ υ, (∀ x, x ≠ k → x ≠ k + 21 → υ x = τ x) → (∀ y, y ≠ 35 → υ k y = τ k y) → OL υ k 35 (k + 21) (L0 ++ (List.range (r * c)).filter (ordR u r c pt (τ (k + 5)))) → Ev (R (nI u) (nI (pt + 1)) υ) Q) → Ev (f_X11_findOrder_b14 k R fu (nI u) (nI pt) 0 υ0) Q := by
    intro pt R L0 υ0 Q hpt i1 i2 i3 hb hk
    refine lp_ev (L := fun n q υ => f_X11_findOrder_b14 k R n (nI u) (nI pt) (nI q) υ) (m := r * c) (I := fun q υ => (∀ x, x ≠ k → x ≠ k + 21 → υ x = τ x) ∧ (∀ y, y ≠ 35 → υ k y = τ k y) ∧ OL υ k 35 (k + 21) (L0 ++ (List.range q).filter (ordR u r c pt (τ (k + 5))))) (fun n υ h => ?_) (fun n q υ hq h ih => ?_) fu 0 υ0 (Nat.zero_le _) (fu_lt (by omega)) ⟨i1, i2, by rw [List.range_zero, List.filter_nil, List.append_nil]; exact i3⟩
    · show Ev (f_X11_findOrder_b14 k R (n + 1) (nI u) (nI pt) (nI (r * c)) υ) _
      obtain ⟨h1, h2, h3⟩ := h
      have z' : Sz υ k r c := by unfold Sz; rw [h2 11 (by decide), h2 12 (by decide)]; exact hz
      rw [f_X11_findOrder_b14]
      simp (disch := omega) only [rdN, wrN, rdZ, wrZ, p_put_eq, call_some, nzN, boN, nI_1, nI_add, pk_mul, lit_4, lit_16, le_T, le_F, lt_T, lt_F, eq_T, eq_F, le_T0, le_F0, lt_F0, lt_T0, eq_T0, eq_F0, eqm_F, up_s2, up_n2, Ev_some, nz_0, nz_1, if_true, if_false, reduceIte, and_true, true_and, and_false, false_and, b2_0, b2_1, Bool.true_eq_false, Bool.false_eq_true, not_true_eq_false, not_false_eq_true, y_cells z']
      exact hk υ h1 h2 h3
    · show Ev (f_X11_findOrder_b14 k R (n + 1) (nI u) (nI pt) (nI q) υ) _
      obtain ⟨h1, h2, h3⟩ := h
      have z' : Sz υ k r c := by unfold Sz; rw [h2 11 (by decide), h2 12 (by decide)]; exact hz
      have hq16 : q < 16 := by omega
      have e5 : υ (k + 5) = τ (k + 5) := h1 _ (by omega) (by omega)
      have b40 : ∀ e : Bool, e = erl u r c q → Ev (f_X11_findOrder_b40 k R (f_X11_findOrder_b14 k R n) (nI u) (nI pt) (nI q) (b2 e) υ) Q := by
        intro e he
        unfold f_X11_findOrder_b40 f_X11_findOrder_b62 f_X11_findOrder_b88
        rw [rdN (by omega) (by decide), e5, nI_1]
        have hP : ordR u r c pt (τ (k + 5)) q = (!(flR (τ (k + 5)) q) && (e == decide (pt = 0))) := by rw [he]; rfl
        have no : ordR u r c pt (τ (k + 5)) q = false → Ev (f_X11_findOrder_b14 k R n (nI u) (nI pt) (nI (q + 1)) υ) Q := fun hF => by
          refine ih υ ⟨h1, h2, ?_⟩
          rw [filt_s, hF, if_neg (by decide), List.append_nil]
          exact h3
        have yes : ordR u r c pt (τ (k + 5)) q = true → Ev (p_wr υ (k + 21) 16 (υ k 35) (nI q) (fun s1 => p_put s1 k 35 (s1 k 35 + 1) (fun s2 => f_X11_findOrder_b14 k R n (nI u) (nI pt) (nI (q + 1)) s2))) Q := fun hT => by
          have hlen := hb q hq hT
          rw [h3.1, wrN (by rw [List.length_append]; omega) (by decide), p_put_eq, up_n2 (by omega), h3.1, nI_1]
          refine ih _ ⟨fun x y z => by rw [up_a y, up_a z]; exact h1 x y z, fun y hy => by rw [up_n2 (by omega), up_n2 (by omega)]; exact h2 y hy, ?_⟩
          rw [filt_s, hT, if_pos rfl, ← List.append_assoc]
          exact h3.add (by omega)
        by_cases hl : τ (k + 5) q < 0
        · have ef : flR (τ (k + 5)) q = false := by unfold flR; rw [decide_eq_true hl]; rfl
          rw [if_neg (Int32.not_le.mpr hl)]
          rw [ef] at hP
          rcases (show pt = 0 ∨ pt = 1 by omega) with rfl | rfl
          · rw [if_pos (show nI 0 = 0 from rfl)]
            cases e
            · rw [if_neg (show ¬ b2 false = 1 by decide)]; exact no (by rw [hP]; decide)
            · rw [if_pos (show b2 true = 1 from rfl)]; exact yes (by rw [hP]; decide)
          · rw [if_neg (show ¬ nI 1 = 0 by decide)]
            cases e
            · rw [if_pos (show b2 false = 0 from rfl)]; exact yes (by rw [hP]; decide)
            · rw [if_neg (show ¬ b2 true = 0 by decide)]; exact no (by rw [hP]; decide)
        · have ef : flR (τ (k + 5)) q = true := by unfold flR; rw [decide_eq_false hl]; rfl
          rw [if_pos (Int32.not_lt.mp hl)]
          exact no (by rw [hP, ef]; rfl)
      rw [f_X11_findOrder_b14, y_cells z', call_some, if_neg (nI_ge (by omega) (by omega)), y_isRim z' hq, call_some]
      unfold f_X11_findOrder_b35
      by_cases hu1 : u = 1
      · subst hu1
        rw [if_pos (show nI 1 = 1 from rfl)]
        cases hr : rim r c q
        · rw [if_pos (show b2 false = 0 from rfl)]; exact b40 false (by unfold erl; rw [hr]; rfl)
        · rw [if_neg (show ¬ b2 true = 0 by decide)]; exact b40 true (by unfold erl; rw [hr]; rfl)
      · rw [if_neg (show ¬ nI u = 1 from fun e => hu1 ((nI_eq (b := 1) (by omega) (by decide)).mp e))]
        exact b40 true (by unfold erl; rw [decide_eq_false hu1]; rfl)
  have st7 : ∀ n x υ, x < 2 → f_X11_findOrder_b7 k (n + 1) (nI u) (nI x) υ = f_X11_findOrder_b14 k (f_X11_findOrder_b7 k n) fu (nI u) (nI x) 0 υ := fun n x υ hx => by
    rw [f_X11_findOrder_b7, if_neg (show ¬ (2 : Int32) ≤ nI x from nI_ge (b := 2) hx (by decide))]
  have fin : ∀ n υ, f_X11_findOrder_b7 k (n + 1) (nI u) (nI 2) υ = some (0, υ) := fun n υ => by
    rw [f_X11_findOrder_b7, if_pos (show (2 : Int32) ≤ nI 2 by decide)]
  show Ev (f_X11_findOrder_b7 k (99999997 + 1 + 1 + 1) (nI u) (nI 0) _) _
  rw [st7 _ _ _ (by decide)]
  refine part 0 _ [] _ _ (by decide) (fun x y z => up_a y) (fun y hy => up_n2 (by omega)) ⟨by simp (disch := omega) only [rdN, wrN, rdZ, wrZ, p_put_eq, call_some, nzN, boN, nI_1, nI_add, pk_mul, lit_4, lit_16, le_T, le_F, lt_T, lt_F, eq_T, eq_F, le_T0, le_F0, lt_F0, lt_T0, eq_T0, eq_F0, eqm_F, up_s2, up_n2, Ev_some, nz_0, nz_1, if_true, if_false, reduceIte, and_true, true_and, and_false, false_and, b2_0, b2_1, Bool.true_eq_false, Bool.false_eq_true, not_true_eq_false, not_false_eq_true]; rfl, fun j hj => absurd hj (Nat.not_lt_zero _)⟩ (fun q hq hP => ?_) (fun υ a1 a2 a3 => ?_)
  · have := filt_le (P := ordR u r c 0 (τ (k + 5))) q
    simp only [List.length_nil, Nat.zero_add]
    omega
  · rw [List.nil_append] at a3
    show Ev (f_X11_findOrder_b7 k (99999997 + 1 + 1) (nI u) (nI 1) υ) _
    rw [st7 _ _ _ (by decide)]
    refine part 1 _ _ υ _ (by decide) a1 a2 a3 (fun q hq hP => ?_) (fun φ b1 b2 b3 => ?_)
    · have m1 := filt_mono (P := ordR u r c 1 (τ (k + 5))) hq hP
      have m2 := filt_two (P := ordR u r c 0 (τ (k + 5))) (Q := ordR u r c 1 (τ (k + 5))) (fun q => ordR_two) (r * c)
      omega
    · show Ev (f_X11_findOrder_b7 k (99999997 + 1) (nI u) (nI 2) φ) _
      rw [fin, Ev_some]
      exact ⟨b1, b2, b3⟩
