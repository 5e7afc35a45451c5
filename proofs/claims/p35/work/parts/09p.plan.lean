/-! the work: done, half, bestRule, table, line -/
section WP
variable {i r c u : Nat} {σ τ : Sg}
/-- one person's share, on both sides -/
theorem w_share {υ : Sg} {w st fr M e : Nat} (g1 : GOk (gM τ) r c (60 * i)) (g2 : GameOk υ 1 (gM τ) r c) (hu : u < 5) (hw : w < 6) (hk : ∃ d, d < 5 ∧ τ 112 w = nI d) (hst : 1 ≤ st) (hst2 : st < 100) (hfr : fr < st) (hM : M < 1000) (hB : Bg υ τ r c u (ordL u r c (τ 108))) (hee : e = min M (ordL u r c (τ 108)).length) : ∃ v υ', f_X9_share 72 1 (nI w) (nI fr) (nI st) (nI e) υ = some (v, υ') ∧ (∀ a, a < 72 ∨ 90 < a → υ' a = υ a) ∧ Bg υ' τ r c u (ordL u r c (τ 108)) ∧ Ev (f_X11_doneBy 103 (nI u) (nI w) (nI M) (nI st) (nI fr) τ) (fun v' ψ => v' = v ∧ Ms τ ψ) := by
  have hrc := g1.rc
  -- the reference begins
  obtain ⟨_, τa, k0, a1, a2, a3⟩ := y_findOrder (τ := τ) (k := 103) g1.sz hu
  obtain ⟨_, τ1, k1, K⟩ := y_keepAll (τ := τa) (k := 103) (w := 1) (by decide)
  have q : ∀ a, a ≠ 103 → a ≠ 121 → τ1 a = τa a := fun a x y => by rw [K.1 a x y, up_a x, up_a x]
  have q2 : ∀ b, b ≠ 26 → b ≠ 27 → τ1 103 b = τa 103 b := fun b x y => by rw [K.2.1 b y, up_n2 (by omega), up_n2 (by omega)]
  have t1 : ∀ a, a ≠ 103 → a ≠ 121 → a ≠ 124 → τ1 a = τ a := fun a x y z => (q a x y).trans (a1 a x z)
  have z1 : Sz τ1 103 r c := by unfold Sz; rw [q2 11 (by decide) (by decide), q2 12 (by decide) (by decide), a2 11 (by decide), a2 12 (by decide)]; exact g1.sz
  have Msa : Ms τ τa := ⟨⟨a1 104 (by decide) (by decide), a1 115 (by decide) (by decide), a1 126 (by decide) (by decide)⟩, ⟨a2 21 (by decide), a2 25 (by decide), a2 39 (by decide)⟩, fun b _ => by rw [a1 121 (by decide) (by decide)], gM_fr (fun a _ _ => a1 a (by omega) (by omega)) (fun b _ _ => a2 b (by omega))⟩
  -- the class begins
  obtain ⟨_, υ1, k2, f1, f2⟩ := x_copyB (σ := υ) (k := 79) (k1 := 7) (by decide) (g2.bob g1)
  obtain ⟨B1, B2, B3, B4, B5⟩ := hB
  have r105 := t1 105 (by decide) (by decide) (by decide)
  have r106 := t1 106 (by decide) (by decide) (by decide)
  have hR : WR υ1 τ1 υ1 τ1 r c u := by
    refine ⟨⟨?_, ?_, ?_, ?_⟩, ?_, fun o ho => ?_, ⟨fun _ _ => rfl, rfl, rfl⟩, fun _ _ _ _ _ => rfl, fun _ _ => rfl⟩
    · rw [r105, r106]; exact B1.fr (fun j hj => f1 _ (by omega))
    · rw [f1 78 (by decide), t1 107 (by decide) (by decide) (by decide)]; exact B2
    · rw [f1 86 (by decide), f1 87 (by decide), t1 112 (by decide) (by decide) (by decide), t1 113 (by decide) (by decide) (by decide)]; exact B3
    · rw [f1 72 (by decide)]; exact B4
    · rw [t1 108 (by decide) (by decide) (by decide), t1 109 (by decide) (by decide) (by decide)]; exact g1.2.2.1
    · rw [t1 108 (by decide) (by decide) (by decide), t1 109 (by decide) (by decide) (by decide), t1 111 (by decide) (by decide) (by decide)]
      obtain ⟨u1, u2, -, u4, u5⟩ := f2 o ho
      obtain ⟨v1, v2, -, v4, v5⟩ := g2.2.2.2.1 o ho
      exact ⟨u1.trans v1, u2.trans v2, u4.trans v4, u5.trans v5⟩
  have back : ∀ (φ : Sg) (v : Int32), (∀ a, a ≠ 103 → a ≠ 108 → a ≠ 109 → a ≠ 125 → φ a = τ1 a) → (∀ b, b ≠ 36 → φ 103 b = τ1 103 b) → Ev (f_X11_doneBy_b66 103 v φ) (fun v' ψ => v' = v ∧ Ms τa ψ) := fun φ v b1 b2 => by
    unfold f_X11_doneBy_b66
    refine Ev.call (show Ev (f_X11_passesAll 103 (nI 1) 0 φ) _ from y_backAll (by decide)) (fun _ ψ k3 => ?_)
    rw [Ev_some]
    refine ⟨rfl, FRs.ms (E := fun a => decide (a = 125)) (D := fun b => decide (b = 36)) (kept_back K (fun x y z w => ?_) ?_ (fun b' x y z w => ?_) k3) (by decide) (by decide)⟩
    · exact b1 x y (by omega) (by omega) (of_decide_eq_false w)
    · exact b1 _ (by decide) (by decide) (by decide) (by decide)
    · exact b2 b' (of_decide_eq_false w)
  have memL : ∀ j, j < (ordL u r c (τ 108)).length → (ordL u r c (τ 108)).getD j 0 < r * c ∧ flR (τ 108) ((ordL u r c (τ 108)).getD j 0) = false := fun j hj => ordL_mem (getD_mem hj)
  have lenL : (ordL u r c (τ 108)).length ≤ r * c := ordL_le
  obtain ⟨v, υ', e1, ⟨φ', hR'⟩, e2⟩ := w_loop (u := u) (τa := τa) (e := e) (M := M) (st := st) (fr := fr) (L := ordL u r c (τ 108)) (υ0 := υ1) z1 (by rw [r105, r106]; exact g1.2.1) (fun p hp => by rw [t1 111 (by decide) (by decide) (by decide)]; exact lost01 g1 hp) hu hw (by rw [t1 112 (by decide) (by decide) (by decide)]; exact hk) hst hst2 (fun j hj => (memL j hj).1) ordL_nd (by omega) (fun j hj => by rw [f1 89 (by decide)]; exact B5.2 j hj) (fun j hj => by rw [q 124 (by decide) (by decide)]; exact a3.2 j hj) (by rw [q2 35 (by decide) (by decide)]; exact a3.1) hM hee back e 0 fr fu fu 0 υ1 τ1 (by omega) (Nat.zero_le _) (by omega) (Nat.mod_eq_of_lt hfr) (by unfold fu; omega) (by unfold fu; omega) hR (fun j' _ hj => by
    have hm := memL j' hj
    rw [t1 108 (by decide) (by decide) (by decide)]
    rcases g1.2.2.1 _ (show (ordL u r c (τ 108)).getD j' 0 < 16 by omega) with x | ⟨-, p, t, hp, -, x, -⟩
    · exact x
    · have hf := hm.2
      unfold flR at hf
      rw [show τ 108 ((ordL u r c (τ 108)).getD j' 0) = nI p from x, decide_eq_false (nI_pos (by omega))] at hf
      cases hf)
  refine ⟨v, υ', ?_, fun a ha => ?_, ⟨?_, ?_, ?_, ?_, ?_, ?_⟩, ?_⟩
  · unfold f_X9_share
    rw [show f_X0_copyFrom (72 + 1 + 6) (1 + 6) υ = _ from k2, call_some]
    exact e1
  · rw [hR'.2.2.2.1.1 a ha, f1 a (by omega)]
  · have := hR'.1.1
    rw [r105, r106] at this
    exact this
  · have := hR'.1.2.1
    rw [t1 107 (by decide) (by decide) (by decide)] at this
    exact this
  · have := hR'.1.2.2.1
    rw [t1 112 (by decide) (by decide) (by decide), t1 113 (by decide) (by decide) (by decide)] at this
    exact this
  · exact hR'.1.2.2.2
  · rw [hR'.2.2.2.1.2.2, f1 72 (by decide)]; exact B5.1
  · rw [hR'.2.2.2.1.2.1, f1 89 (by decide)]; exact B5.2
  · unfold f_X11_doneBy
    rw [k0, call_some, show f_X11_passesAll 103 1 1 τa = _ from k1, call_some]
    exact e2.mono (fun _ ψ h => ⟨h.1, Msa.trans h.2⟩)
theorem GameOk.st {G : Sg} {υ : Sg} (h : GameOk σ 1 G r c) (e : ∀ a, a < 72 ∨ 90 < a → υ a = σ a) : GameOk υ 1 G r c := h.fr (fun j _ _ => e _ (by omega))
/-- what one does alone: the whole, or a part -/
theorem w_alone {w M e : Nat} (g1 : GOk (gM τ) r c (60 * i)) (g2 : GameOk σ 1 (gM τ) r c) (hu : u < 5) (hw : w < 6) (hk : ∃ d, d < 5 ∧ τ 112 w = nI d) (hM : M < 1000) (hee : e = min M (ordL u r c (τ 108)).length) : ∃ υ υ' v x, f_X9_begin 72 1 (nI u) σ = some (x, υ) ∧ υ 72 4 = nI (ordL u r c (τ 108)).length ∧ f_X9_sortingCost 72 (1 + 6) υ = some (srtV u (cntV (τ 111) (τ 108) (r * c)), υ) ∧ f_X9_share 72 1 (nI w) 0 1 (nI e) υ = some (v, υ') ∧ (∀ a, a < 72 ∨ 90 < a → υ' a = σ a) ∧ Ev (f_X11_doneBy 103 (nI u) (nI w) (nI M) 1 0 τ) (fun v' ψ => v' = v ∧ Ms τ ψ) := by
  obtain ⟨x, υ, e1, f1, B⟩ := x_begin g1 g2 hu
  have G := g2.st f1
  obtain ⟨v, υ', e2, f2, -, e3⟩ := w_share (st := 1) (fr := 0) g1 G hu hw hk (by decide) (by decide) (by decide) hM B hee
  exact ⟨υ, υ', v, x, e1, B.2.2.2.2.1, x_sorting g1 G hu B, e2, fun a ha => (f2 a ha).trans (f1 a ha), e3⟩
theorem Xs.w {υ : Sg} (h : ∀ a, a < 72 ∨ 90 < a → υ a = σ a) : Xs σ υ := fun a _ _ _ w => h a (by omega)
theorem w_whole {w : Nat} (h : Inv i σ τ) (hu : u < 5) (hw : nI w < τ 103 13) (hw6 : w < 6) : ∃ v σ' τ', f_X9_wholeBy 72 1 (nI u) (nI w) σ = some (v, σ') ∧ f_X11_doneOf 103 (nI u) (nI w) τ = some (v, τ') ∧ Xs σ σ' ∧ Ms τ τ' := by
  obtain ⟨⟨r, c, g1, g2, g3⟩, -⟩ := id h
  have hrc := g1.rc
  obtain ⟨n, m6, e1, e2, e3⟩ := people g1 g2
  have hwn : w < n := by rw [e1] at hw; exact (nI_ltI (by omega) (by omega)).mp hw
  have lenL : (ordL u r c (τ 108)).length ≤ r * c := ordL_le
  obtain ⟨υ, υ', v, x, k1, k2, k3, k4, k5, v', ψ, k6, k7, k8⟩ := w_alone (w := w) (M := 16) (e := (ordL u r c (τ 108)).length) g1 g2 hu hw6 (e3 w hwn).1 (by decide) (by omega)
  refine ⟨srtV u (cntV (τ 111) (τ 108) (r * c)) + v, υ', ψ, ?_, ?_, Xs.w k5, k8⟩
  · unfold f_X9_wholeBy
    rw [k1, call_some, k3, call_some, k2, k4, call_some]
  · unfold f_X11_doneOf
    rw [y_sortsFor g1.sz hu, call_some, show f_X11_doneBy 103 (nI u) (nI w) 16 1 0 τ = _ from k6, call_some, k7]
theorem pig : ∀ (n : Nat) (f : Nat → Nat), (∀ x, x < n + 1 → f x < n) → ∃ x y, x < y ∧ y < n + 1 ∧ f x = f y
  | 0, f, h => absurd (h 0 (by decide)) (Nat.not_lt_zero _)
  | n + 1, f, h => by
    by_cases hx : ∃ x, x < n + 1 ∧ f x = f (n + 1)
    · obtain ⟨x, a, b⟩ := hx
      exact ⟨x, n + 1, a, by omega, b⟩
    · have hne : ∀ x, x < n + 1 → f x ≠ f (n + 1) := fun x a b => hx ⟨x, a, b⟩
      have hl := h (n + 1) (by omega)
      obtain ⟨x, y, a, b, e⟩ := pig n (fun x => if f (n + 1) < f x then f x - 1 else f x) (fun x a => by
        have h1 := h x (by omega)
        have h2 := hne x a
        show (if f (n + 1) < f x then f x - 1 else f x) < n
        by_cases z : f (n + 1) < f x
        · rw [if_pos z]; omega
        · rw [if_neg z]; omega)
      refine ⟨x, y, a, by omega, ?_⟩
      have h1 := hne x (by omega)
      have h2 := hne y (by omega)
      have e' : (if f (n + 1) < f x then f x - 1 else f x) = (if f (n + 1) < f y then f y - 1 else f y) := e
      by_cases z : f (n + 1) < f x
      · rw [if_pos z] at e'
        by_cases z2 : f (n + 1) < f y
        · rw [if_pos z2] at e'; omega
        · rw [if_neg z2] at e'; omega
      · rw [if_neg z] at e'
        by_cases z2 : f (n + 1) < f y
        · rw [if_pos z2] at e'; omega
        · rw [if_neg z2] at e'; omega
/-- where all cells are laid, all pieces are -/
theorem all_laid (g1 : GOk (gM τ) r c (60 * i)) (h : ∀ q, q < r * c → flR (τ 108) q = true) : ∀ p, p < r * c → laidB (τ 108) (r * c) (nI p) = true := by
  have hrc := g1.rc
  have hpos : 4 ≤ r * c := Nat.mul_le_mul g1.1.2.2.1.1 g1.1.2.2.2.1
  intro p hp
  cases hl : laidB (τ 108) (r * c) (nI p) with
  | true => rfl
  | false =>
    have hv : ∀ q, q < r * c → ∃ x, x < r * c ∧ τ 108 q = nI x ∧ x ≠ p := fun q hq => by
      rcases g1.2.2.1 q (by omega) with w | ⟨-, x, t, hx, -, w, -⟩
      · have := h q hq
        unfold flR at this
        rw [show τ 108 q = -1 from w] at this
        cases this
      · refine ⟨x, hx, w, fun e => ?_⟩
        subst e
        rw [show laidB (τ 108) (r * c) (nI x) = true from laidB_iff.mpr ⟨q, hq, w⟩] at hl
        cases hl
    have hc : ∀ q, q < r * c → τ 108 q = nI (τ 108 q).toNatClampNeg ∧ (τ 108 q).toNatClampNeg < r * c ∧ (τ 108 q).toNatClampNeg ≠ p := fun q hq => by
      obtain ⟨x, a, b, e⟩ := hv q hq
      rw [b, nI_clamp (by omega)]
      exact ⟨rfl, a, e⟩
    obtain ⟨n, hn⟩ : ∃ n, r * c = n + 1 := ⟨r * c - 1, by omega⟩
    obtain ⟨x, y, a, b, e⟩ := pig n (fun q => if p < (τ 108 q).toNatClampNeg then (τ 108 q).toNatClampNeg - 1 else (τ 108 q).toNatClampNeg) (fun q hq => by
      obtain ⟨-, z2, z3⟩ := hc q (by omega)
      show (if p < (τ 108 q).toNatClampNeg then (τ 108 q).toNatClampNeg - 1 else (τ 108 q).toNatClampNeg) < n
      by_cases z : p < (τ 108 q).toNatClampNeg
      · rw [if_pos z]; omega
      · rw [if_neg z]; omega)
    obtain ⟨x1, x2, x3⟩ := hc x (by omega)
    obtain ⟨y1, y2, y3⟩ := hc y (by omega)
    have e' : (if p < (τ 108 x).toNatClampNeg then (τ 108 x).toNatClampNeg - 1 else (τ 108 x).toNatClampNeg) = (if p < (τ 108 y).toNatClampNeg then (τ 108 y).toNatClampNeg - 1 else (τ 108 y).toNatClampNeg) := e
    have hxy : (τ 108 x).toNatClampNeg = (τ 108 y).toNatClampNeg := by
      by_cases z : p < (τ 108 x).toNatClampNeg
      · rw [if_pos z] at e'
        by_cases z2 : p < (τ 108 y).toNatClampNeg
        · rw [if_pos z2] at e'; omega
        · rw [if_neg z2] at e'; omega
      · rw [if_neg z] at e'
        by_cases z2 : p < (τ 108 y).toNatClampNeg
        · rw [if_pos z2] at e'; omega
        · rw [if_neg z2] at e'; omega
    have heq : τ 108 x = τ 108 y := by rw [x1, y1, hxy]
    rcases g1.2.2.2.1 x y (by omega) (by omega) heq with z | z
    · have : τ 108 x = -1 := z
      rw [x1] at this
      exact absurd this (nI_nm1 (by omega))
    · omega
theorem ordL_0 {pc : Nat → Int32} (h : (ordL u r c pc).length = 0) : ∀ q, q < r * c → flR pc q = true := fun q hq => by
  cases hf : flR pc q with
  | true => rfl
  | false =>
    have : q ∈ ordL u r c pc := by
      unfold ordL
      rw [List.mem_append, List.mem_filter, List.mem_filter, List.mem_range]
      unfold ordR
      rw [hf]
      cases erl u r c q
      · exact .inr ⟨hq, by decide⟩
      · exact .inl ⟨hq, by decide⟩
    rw [List.length_eq_zero_iff.mp h] at this
    cases this
theorem w_refPlan {n : Nat} {x y : Int32} (e2 : σ 13 0 = nI n) : f_X10_refusalOfPlan 0 x y σ = some (if inB 5 x = true then (if inB n y = true then 0 else -1) else -2, σ) := by
  unfold f_X10_refusalOfPlan
  simp (disch := omega) only [rdN, wrN, rdZ, wrZ, p_put_eq, call_some, nzN, boN, nI_1, nI_add, pk_mul, lit_4, lit_16, le_T, le_F, lt_T, lt_F, eq_T, eq_F, le_T0, le_F0, lt_F0, lt_T0, eq_T0, eq_F0, eqm_F, up_s2, up_n2, Ev_some, nz_0, nz_1, if_true, if_false, reduceIte, and_true, true_and, and_false, false_and, b2_0, b2_1, Bool.true_eq_false, Bool.false_eq_true, not_true_eq_false, not_false_eq_true, w_isRule, w_isPerson e2]
  cases inB 5 x <;> cases inB n y <;> rfl
theorem r_done {x y : Int32} (h : Inv i σ τ) : Rl i (f_X10_done 0 x y σ) (f_X11_done 103 x y τ) := by
  obtain ⟨⟨r, c, g1, g2, g3⟩, -⟩ := id h
  obtain ⟨n, m6, e1, e2, e3⟩ := people g1 g2
  have N1 : Rl i (p_call (f_X10_refuse 0 (-1) σ) (fun v s => some (v, s))) (p_call (f_X11_no 103 (-1) τ) (fun v s => some (v, s))) := r_no h (by decide) n1
  have N2 : Rl i (p_call (f_X10_refuse 0 (-2) σ) (fun v s => some (v, s))) (p_call (f_X11_no 103 (-2) τ) (fun v s => some (v, s))) := r_no h (by decide) n2
  unfold f_X10_done f_X11_done
  rw [v_rule, call_some]
  simp (disch := omega) only [rdN, wrN, rdZ, wrZ, p_put_eq, call_some, nzN, boN, nI_1, nI_add, pk_mul, lit_4, lit_16, le_T, le_F, lt_T, lt_F, eq_T, eq_F, le_T0, le_F0, lt_F0, lt_T0, eq_T0, eq_F0, eqm_F, up_s2, up_n2, Ev_some, nz_0, nz_1, if_true, if_false, reduceIte, and_true, true_and, and_false, false_and, b2_0, b2_1, Bool.true_eq_false, Bool.false_eq_true, not_true_eq_false, not_false_eq_true, w_refPlan e2, v_isPerson e1]
  cases hx : inB 5 x with
  | false => simp (disch := omega) only [rdN, wrN, rdZ, wrZ, p_put_eq, call_some, nzN, boN, nI_1, nI_add, pk_mul, lit_4, lit_16, le_T, le_F, lt_T, lt_F, eq_T, eq_F, le_T0, le_F0, lt_F0, lt_T0, eq_T0, eq_F0, eqm_F, up_s2, up_n2, Ev_some, nz_0, nz_1, if_true, if_false, reduceIte, and_true, true_and, and_false, false_and, b2_0, b2_1, Bool.true_eq_false, Bool.false_eq_true, not_true_eq_false, not_false_eq_true, show ¬ (-2 : Int32) = 0 by decide]; exact N2
  | true =>
    cases hy : inB n y with
    | false => simp (disch := omega) only [rdN, wrN, rdZ, wrZ, p_put_eq, call_some, nzN, boN, nI_1, nI_add, pk_mul, lit_4, lit_16, le_T, le_F, lt_T, lt_F, eq_T, eq_F, le_T0, le_F0, lt_F0, lt_T0, eq_T0, eq_F0, eqm_F, up_s2, up_n2, Ev_some, nz_0, nz_1, if_true, if_false, reduceIte, and_true, true_and, and_false, false_and, b2_0, b2_1, Bool.true_eq_false, Bool.false_eq_true, not_true_eq_false, not_false_eq_true, show ¬ (-1 : Int32) = 0 by decide]; exact N1
    | true =>
      simp (disch := omega) only [rdN, wrN, rdZ, wrZ, p_put_eq, call_some, nzN, boN, nI_1, nI_add, pk_mul, lit_4, lit_16, le_T, le_F, lt_T, lt_F, eq_T, eq_F, le_T0, le_F0, lt_F0, lt_T0, eq_T0, eq_F0, eqm_F, up_s2, up_n2, Ev_some, nz_0, nz_1, if_true, if_false, reduceIte, and_true, true_and, and_false, false_and, b2_0, b2_1, Bool.true_eq_false, Bool.false_eq_true, not_true_eq_false, not_false_eq_true]
      obtain ⟨u, hu, rfl⟩ := inB_of (by decide) hx
      obtain ⟨w, hw, rfl⟩ := inB_of (by omega) hy
      obtain ⟨v, σ', τ', k1, k2, k3, k4⟩ := w_whole (w := w) h hu (by rw [e1]; exact nI_lt hw (by omega)) (by omega)
      rw [show f_X9_wholeBy (0 + 72) (0 + 1) (nI u) (nI w) σ = _ from k1, call_some, k2, call_some]
      exact Rl.of rfl rfl (h.sc k3 k4)
theorem jhalf : ∀ n, n < 17 → 1 ≤ n → jmin (nI n) (jmax 1 (nI n / 2)) = nI (min (if n < 2 then 1 else n / 2) n) := by decide +kernel
theorem r_half {x y : Int32} (h : Inv i σ τ) : Rl i (f_X10_half 0 x y σ) (f_X11_half 103 x y τ) := by
  obtain ⟨⟨r, c, g1, g2, g3⟩, -⟩ := id h
  have hrc := g1.rc
  obtain ⟨n, m6, e1, e2, e3⟩ := people g1 g2
  have N1 : Rl i (p_call (f_X10_refuse 0 (-1) σ) (fun v s => some (v, s))) (p_call (f_X11_no 103 (-1) τ) (fun v s => some (v, s))) := r_no h (by decide) n1
  have N2 : Rl i (p_call (f_X10_refuse 0 (-2) σ) (fun v s => some (v, s))) (p_call (f_X11_no 103 (-2) τ) (fun v s => some (v, s))) := r_no h (by decide) n2
  unfold f_X10_half f_X11_half
  rw [v_rule, call_some]
  simp (disch := omega) only [rdN, wrN, rdZ, wrZ, p_put_eq, call_some, nzN, boN, nI_1, nI_add, pk_mul, lit_4, lit_16, le_T, le_F, lt_T, lt_F, eq_T, eq_F, le_T0, le_F0, lt_F0, lt_T0, eq_T0, eq_F0, eqm_F, up_s2, up_n2, Ev_some, nz_0, nz_1, if_true, if_false, reduceIte, and_true, true_and, and_false, false_and, b2_0, b2_1, Bool.true_eq_false, Bool.false_eq_true, not_true_eq_false, not_false_eq_true, w_refPlan e2, v_isPerson e1]
  cases hx : inB 5 x with
  | false => simp (disch := omega) only [rdN, wrN, rdZ, wrZ, p_put_eq, call_some, nzN, boN, nI_1, nI_add, pk_mul, lit_4, lit_16, le_T, le_F, lt_T, lt_F, eq_T, eq_F, le_T0, le_F0, lt_F0, lt_T0, eq_T0, eq_F0, eqm_F, up_s2, up_n2, Ev_some, nz_0, nz_1, if_true, if_false, reduceIte, and_true, true_and, and_false, false_and, b2_0, b2_1, Bool.true_eq_false, Bool.false_eq_true, not_true_eq_false, not_false_eq_true, show ¬ (-2 : Int32) = 0 by decide]; exact N2
  | true =>
    cases hy : inB n y with
    | false => simp (disch := omega) only [rdN, wrN, rdZ, wrZ, p_put_eq, call_some, nzN, boN, nI_1, nI_add, pk_mul, lit_4, lit_16, le_T, le_F, lt_T, lt_F, eq_T, eq_F, le_T0, le_F0, lt_F0, lt_T0, eq_T0, eq_F0, eqm_F, up_s2, up_n2, Ev_some, nz_0, nz_1, if_true, if_false, reduceIte, and_true, true_and, and_false, false_and, b2_0, b2_1, Bool.true_eq_false, Bool.false_eq_true, not_true_eq_false, not_false_eq_true, show ¬ (-1 : Int32) = 0 by decide]; exact N1
    | true =>
      simp (disch := omega) only [rdN, wrN, rdZ, wrZ, p_put_eq, call_some, nzN, boN, nI_1, nI_add, pk_mul, lit_4, lit_16, le_T, le_F, lt_T, lt_F, eq_T, eq_F, le_T0, le_F0, lt_F0, lt_T0, eq_T0, eq_F0, eqm_F, up_s2, up_n2, Ev_some, nz_0, nz_1, if_true, if_false, reduceIte, and_true, true_and, and_false, false_and, b2_0, b2_1, Bool.true_eq_false, Bool.false_eq_true, not_true_eq_false, not_false_eq_true]
      obtain ⟨u, hu, rfl⟩ := inB_of (by decide) hx
      obtain ⟨w, hw, rfl⟩ := inB_of (by omega) hy
      have lenL : (ordL u r c (τ 108)).length ≤ r * c := ordL_le
      -- the reference's order
      obtain ⟨_, τa, k0, a1, a2, a3⟩ := y_findOrder (τ := τ) (k := 103) g1.sz hu
      have Msa : Ms τ τa := ⟨⟨a1 104 (by decide) (by decide), a1 115 (by decide) (by decide), a1 126 (by decide) (by decide)⟩, ⟨a2 21 (by decide), a2 25 (by decide), a2 39 (by decide)⟩, fun b _ => by rw [a1 121 (by decide) (by decide)], gM_fr (fun a _ _ => a1 a (by omega) (by omega)) (fun b _ _ => a2 b (by omega))⟩
      have ha := h.sc Xs.refl Msa
      have G1 := g1.cg Msa.2.2.2
      have G2 := g2.cg Msa.2.2.2
      have z8 : τa 108 = τ 108 := a1 108 (by decide) (by decide)
      have z11 : τa 111 = τ 111 := a1 111 (by decide) (by decide)
      have e12 : τa 112 = τ 112 := a1 112 (by decide) (by decide)
      unfold f_X9_halfBy f_X11_half_b70
      rw [k0, call_some, a3.1]
      rcases Nat.eq_zero_or_pos (ordL u r c (τ 108)).length with hl0 | hl0
      · -- all is laid
        obtain ⟨υ, υ', v, x, k1, k2, k3, k4, k5, -⟩ := w_alone (w := w) (M := 0) (e := 0) g1 g2 hu (by omega) (e3 w hw).1 (by decide) (by omega)
        have hz0 : cntV (τ 111) (τ 108) (r * c) = 0 := sm_zero _ _ (fun p _ hp => by
          rw [all_laid g1 (ordL_0 hl0) p (by omega)]
          simp [b2])
        have s0 : srtV u 0 = 0 := by
          unfold srtV
          by_cases z : u = 2
          · rw [if_pos z]; decide
          · rw [if_neg z]
            by_cases z2 : u ≤ 2
            · rw [if_pos z2]
            · rw [if_neg z2]; decide
        rw [hl0] at k2
        rw [show f_X9_begin (0 + 72) (0 + 1) (nI u) σ = _ from k1, call_some, show f_X9_sortingCost (0 + 72) (0 + 1 + 6) υ = _ from k3, call_some, k2, show jmin (nI 0) (jmax 1 (nI 0 / 2)) = nI 0 by decide, show f_X9_share (0 + 72) (0 + 1) (nI w) 0 1 (nI 0) υ = _ from k4, call_some, hl0, if_pos (show nI (0 : Nat) = 0 from rfl), hz0, s0]
        have v0 : v = 0 := by
          unfold f_X9_share at k4
          have st : ∀ n φ, f_X9_share_b20 72 1 (n + 1) (nI w) 1 (nI 0) 0 0 φ = some (0, φ) := fun n φ => by rw [f_X9_share_b20, if_pos (show (nI 0 : Int32) ≤ 0 by decide)]
          obtain ⟨_, φ, q1, -⟩ := x_copyB (σ := υ) (k := 79) (k1 := 7) (by decide) ((g2.st (fun a ha => by
            obtain ⟨_, υ'', y1, y2, -⟩ := x_begin g1 g2 hu
            rw [y1] at k1
            cases k1
            exact y2 a ha)).bob g1)
          rw [show f_X0_copyFrom (72 + 1 + 6) (1 + 6) υ = _ from q1, call_some, show f_X9_share_b20 72 1 fu (nI w) 1 (nI 0) 0 0 φ = _ from st 99999999 φ] at k4
          cases k4
          rfl
        rw [v0]
        exact Rl.of rfl rfl (ha.sc (Xs.w k5) Ms.refl)
      · rw [if_neg (nI_ne0 hl0 (by omega)), y_sortsFor G1.sz hu, call_some, a3.1]
        obtain ⟨υ, υ', v, x, k1, k2, k3, k4, k5, v', ψ, k6, k7, k8⟩ := w_alone (τ := τa) (w := w) (M := if (ordL u r c (τ 108)).length < 2 then 1 else (ordL u r c (τ 108)).length / 2) (e := min (if (ordL u r c (τ 108)).length < 2 then 1 else (ordL u r c (τ 108)).length / 2) (ordL u r c (τ 108)).length) G1 G2 hu (by omega) (by rw [e12]; exact (e3 w hw).1) (by
          by_cases z : (ordL u r c (τ 108)).length < 2
          · rw [if_pos z]; decide
          · rw [if_neg z]; omega) (by rw [z8])
        rw [z8] at k2
        rw [z8, z11] at k3
        rw [show τa (103 + 8) = τ 111 from z11, show τa (103 + 5) = τ 108 from z8]
        rw [show f_X9_begin (0 + 72) (0 + 1) (nI u) σ = _ from k1, call_some, show f_X9_sortingCost (0 + 72) (0 + 1 + 6) υ = _ from k3, call_some, k2, jhalf _ (by omega) hl0, show f_X9_share (0 + 72) (0 + 1) (nI w) 0 1 (nI (min (if (ordL u r c (τ 108)).length < 2 then 1 else (ordL u r c (τ 108)).length / 2) (ordL u r c (τ 108)).length)) υ = _ from k4, call_some]
        rcases Nat.lt_or_ge (ordL u r c (τ 108)).length 2 with z | z
        · rw [if_pos z] at k6
          rw [if_neg (show ¬ (2 : Int32) ≤ nI (ordL u r c (τ 108)).length from nI_ge (b := 2) z (by decide)), show f_X11_doneBy 103 (nI u) (nI w) 1 1 0 τa = _ from k6, call_some, k7]
          exact Rl.of rfl rfl (ha.sc (Xs.w k5) k8)
        · rw [if_neg (by omega)] at k6
          have ed : nI (ordL u r c (τ 108)).length / 2 = nI ((ordL u r c (τ 108)).length / 2) := pk_div (d := 2) (by omega) (by decide) (by decide)
          rw [if_pos (show (2 : Int32) ≤ nI (ordL u r c (τ 108)).length from nI_le (a := 2) z (by omega)), ed, k6, call_some, k7]
          exact Rl.of rfl rfl (ha.sc (Xs.w k5) k8)
/-- the whole by one, however often it is asked -/
theorem w_same {w : Nat} (h : Inv i σ τ) (hu : u < 5) (hw : nI w < τ 103 13) (hw6 : w < 6) : ∃ v, ∀ σ' τ', Xs σ σ' → Ms τ τ' → (∃ σ'', f_X9_wholeBy 72 1 (nI u) (nI w) σ' = some (v, σ'') ∧ Xs σ σ'') ∧ ∃ τ'', f_X11_doneOf 103 (nI u) (nI w) τ' = some (v, τ'') ∧ Ms τ τ'' := by
  have hc : ∀ τ', Ms τ τ' → nI w < τ' 103 13 := fun τ' hM => by rw [show τ' 103 13 = τ 103 13 from hM.2.2.2.2.2 2 (by decide)]; exact hw
  obtain ⟨v, s0, t0, a1, a2, a3, a4⟩ := w_whole (w := w) h hu hw hw6
  refine ⟨v, fun σ' τ' hX hM => ⟨?_, ?_⟩⟩
  · obtain ⟨v', s1, t1, b1, b2, b3, b4⟩ := w_whole (w := w) (h.sc hX Ms.refl) hu hw hw6
    rw [a2] at b2
    cases b2
    exact ⟨s1, b1, hX.trans b3⟩
  · obtain ⟨v', s1, t1, b1, b2, b3, b4⟩ := w_whole (w := w) (h.sc Xs.refl hM) hu (hc τ' hM) hw6
    rw [a1] at b1
    cases b1
    exact ⟨t1, b2, hM.trans b4⟩
theorem r_bestRule {x : Int32} (h : Inv i σ τ) : Rl i (f_X10_bestRule 0 x σ) (f_X11_bestRule 103 x τ) := by
  obtain ⟨⟨r, c, g1, g2, g3⟩, -⟩ := id h
  obtain ⟨n, m6, e1, e2, e3⟩ := people g1 g2
  unfold f_X10_bestRule f_X11_bestRule
  simp (disch := omega) only [rdN, wrN, rdZ, wrZ, p_put_eq, call_some, nzN, boN, nI_1, nI_add, pk_mul, lit_4, lit_16, le_T, le_F, lt_T, lt_F, eq_T, eq_F, le_T0, le_F0, lt_F0, lt_T0, eq_T0, eq_F0, eqm_F, up_s2, up_n2, Ev_some, nz_0, nz_1, if_true, if_false, reduceIte, and_true, true_and, and_false, false_and, b2_0, b2_1, Bool.true_eq_false, Bool.false_eq_true, not_true_eq_false, not_false_eq_true, w_isPerson e2, v_isPerson e1]
  cases hx : inB n x with
  | false => simp (disch := omega) only [rdN, wrN, rdZ, wrZ, p_put_eq, call_some, nzN, boN, nI_1, nI_add, pk_mul, lit_4, lit_16, le_T, le_F, lt_T, lt_F, eq_T, eq_F, le_T0, le_F0, lt_F0, lt_T0, eq_T0, eq_F0, eqm_F, up_s2, up_n2, Ev_some, nz_0, nz_1, if_true, if_false, reduceIte, and_true, true_and, and_false, false_and, b2_0, b2_1, Bool.true_eq_false, Bool.false_eq_true, not_true_eq_false, not_false_eq_true]; exact r_no h (by decide) n1
  | true =>
    simp (disch := omega) only [rdN, wrN, rdZ, wrZ, p_put_eq, call_some, nzN, boN, nI_1, nI_add, pk_mul, lit_4, lit_16, le_T, le_F, lt_T, lt_F, eq_T, eq_F, le_T0, le_F0, lt_F0, lt_T0, eq_T0, eq_F0, eqm_F, up_s2, up_n2, Ev_some, nz_0, nz_1, if_true, if_false, reduceIte, and_true, true_and, and_false, false_and, b2_0, b2_1, Bool.true_eq_false, Bool.false_eq_true, not_true_eq_false, not_false_eq_true]
    obtain ⟨w, hw, rfl⟩ := inB_of (by omega) hx
    have hV : ∀ u, ∃ v, u < 5 → ∀ σ' τ', Xs σ σ' → Ms τ τ' → (∃ σ'', f_X9_wholeBy 72 1 (nI u) (nI w) σ' = some (v, σ'') ∧ Xs σ σ'') ∧ ∃ τ'', f_X11_doneOf 103 (nI u) (nI w) τ' = some (v, τ'') ∧ Ms τ τ'' := fun u => by
      by_cases hu : u < 5
      · obtain ⟨v, hv⟩ := w_same (w := w) h hu (by rw [e1]; exact nI_lt hw (by omega)) (by omega)
        exact ⟨v, fun _ => hv⟩
      · exact ⟨0, fun u' => absurd u' hu⟩
    obtain ⟨V, hV⟩ := Classical.axiomOfChoice hV
    obtain ⟨σ1, k1, k2⟩ := (hV 0 (by decide) σ τ Xs.refl Ms.refl).1
    rw [show f_X9_wholeBy (0 + 72) (0 + 1) 0 (nI w) σ = _ from k1, call_some]
    -- in step
    have step : ∀ (m j f g b : Nat) (υ φ : Sg), j + m = 5 → b < 5 → m < f → m < g → Xs σ υ → Ms τ φ → R2 (f_X10_bestRule_b33 0 f (nI w) (nI b) (V b) (nI j) υ) (f_X11_bestRule_b18 103 g (nI w) (nI b) (nI j) φ) (fun υ' φ' => Xs σ υ' ∧ Ms τ φ') := by
      intro m
      induction m with
      | zero =>
        intro j f g b υ φ hj hb hf hg hX hM
        obtain ⟨f', rfl⟩ : ∃ f', f = f' + 1 := ⟨f - 1, by omega⟩
        obtain ⟨g', rfl⟩ : ∃ g', g = g' + 1 := ⟨g - 1, by omega⟩
        have : j = 5 := by omega
        subst this
        rw [f_X10_bestRule_b33, f_X11_bestRule_b18, if_pos (show (5 : Int32) ≤ nI 5 by decide), if_pos (show (5 : Int32) ≤ nI 5 by decide)]
        exact ⟨_, _, _, rfl, rfl, hX, hM⟩
      | succ m ih =>
        intro j f g b υ φ hj hb hf hg hX hM
        obtain ⟨f', rfl⟩ : ∃ f', f = f' + 1 := ⟨f - 1, by omega⟩
        obtain ⟨g', rfl⟩ : ∃ g', g = g' + 1 := ⟨g - 1, by omega⟩
        obtain ⟨υ1, a1, a2⟩ := (hV j (by omega) υ φ hX hM).1
        obtain ⟨φ1, b1, b2⟩ := (hV j (by omega) υ φ hX hM).2
        obtain ⟨φ2, c1, c2⟩ := (hV b hb υ φ1 hX b2).2
        rw [f_X10_bestRule_b33, f_X11_bestRule_b18, if_neg (show ¬ (5 : Int32) ≤ nI j from nI_ge (b := 5) (by omega) (by decide)), if_neg (show ¬ (5 : Int32) ≤ nI j from nI_ge (b := 5) (by omega) (by decide)), show f_X9_wholeBy (0 + 72) (0 + 1) (nI j) (nI w) υ = _ from a1, call_some, b1, call_some, c1, call_some]
        unfold f_X10_bestRule_b67 f_X11_bestRule_b43
        rw [nI_1]
        by_cases hv : V b ≤ V j
        · rw [if_pos hv, if_pos hv]
          exact ih (j + 1) f' g' b υ1 φ2 (by omega) hb (by omega) (by omega) a2 c2
        · rw [if_neg hv, if_neg hv]
          exact ih (j + 1) f' g' j υ1 φ2 (by omega) (by omega) (by omega) (by omega) a2 c2
    obtain ⟨v, υ', φ', s1, s2, s3, s4⟩ := step 4 1 fu fu 0 σ1 τ (by decide) (by decide) (by decide) (by decide) k2 Ms.refl
    exact Rl.of s1 s2 (h.sc s3 s4)
end WP
