/-! the start: a new class and a new reference are alike -/
section ST
theorem sgx_cut {a : Nat} (h1 : 2 ≤ a) (h2 : a < 7) : sgX a = sc_X3_init_X1_cutAnew.2 a := by
  unfold sgX rho_AuntsPuzzle rho_Game
  rw [if_neg (by omega), if_pos (by omega), if_neg (by omega), if_pos (by omega), show a - 1 - 1 + 2 = a by omega]
theorem sgx_brd {a : Nat} (h1 : 7 ≤ a) (h2 : a < 13) : sgX a = sc_X3_init_X0_clear.2 a := by
  unfold sgX rho_AuntsPuzzle rho_Game
  rw [if_neg (by omega), if_pos (by omega), if_neg (by omega), if_neg (by omega), if_pos (by omega), show a - 1 - 6 + 7 = a by omega]
theorem sgx_ppl {a : Nat} (h1 : 13 ≤ a) (h2 : a < 17) : sgX a = fun _ => 0 := by
  unfold sgX rho_AuntsPuzzle rho_Game
  rw [if_neg (by omega), if_pos (by omega), if_neg (by omega), if_neg (by omega), if_neg (by omega)]
  rfl
theorem sgx_0 : sgX 0 = fun _ => 0 := by
  unfold sgX rho_AuntsPuzzle
  rw [if_pos (by omega)]
theorem sgx_55 : sgX 55 = fun _ => 0 := by
  unfold sgX rho_AuntsPuzzle
  rw [if_neg (by omega), if_neg (by omega), if_neg (by omega), if_neg (by omega), if_neg (by omega), if_pos (by omega)]
  rfl
theorem sgx_57 : sgX 57 = fun _ => 0 := by
  unfold sgX rho_AuntsPuzzle
  rw [if_neg (by omega), if_neg (by omega), if_neg (by omega), if_neg (by omega), if_neg (by omega), if_neg (by omega), if_pos (by omega)]
  rfl
theorem sgx_59 : sgX 59 = fun _ => 0 := by
  unfold sgX rho_AuntsPuzzle rho_Search
  rw [if_neg (by omega), if_neg (by omega), if_neg (by omega), if_neg (by omega), if_neg (by omega), if_neg (by omega), if_neg (by omega), if_pos (by omega), if_pos (by omega)]
theorem sgx_102 : sgX 102 = fun _ => 0 := by
  unfold sgX rho_AuntsPuzzle
  rw [if_neg (by omega), if_neg (by omega), if_neg (by omega), if_neg (by omega), if_neg (by omega), if_neg (by omega), if_neg (by omega), if_neg (by omega), if_neg (by omega), if_neg (by omega), if_neg (by omega)]
theorem inv_start : Inv 0 sgX sgM ∧ sgX 13 0 = 0 ∧ sgM 103 13 = 0 ∧ sgM 103 14 = 0 := by
  obtain ⟨v1, υ1, e1, f1, f2, f3, f21⟩ := x_cutAnew (σ := z0) (k := 2) (r := 3) (c := 3) (by decide) (by decide)
  obtain ⟨v2, υ2, e2, f4, f5, f6, f7⟩ := x_clearB (σ := z0) (k := 7)
  obtain ⟨v3, φ1, e3, q1, q2, q3, q4, q5⟩ := y_anew (τ := z0) (r := 3) (c := 3)
  have s1 : sc_X3_init_X1_cutAnew.2 = υ1 := congrArg Prod.snd (Option.some.inj (sc_X3_init_X1_cutAnew_ok.symm.trans e1))
  have s2 : sc_X3_init_X0_clear.2 = υ2 := congrArg Prod.snd (Option.some.inj (sc_X3_init_X0_clear_ok.symm.trans e2))
  have s3 : sgM = φ1 := congrArg Prod.snd (Option.some.inj (sc_X11_init_X11_anew_ok.symm.trans e3))
  have hc : ∀ a, 2 ≤ a → a < 7 → sgX a = υ1 a := fun a x y => by rw [sgx_cut x y, s1]
  have hb : ∀ a, 7 ≤ a → a < 13 → sgX a = υ2 a := fun a x y => by rw [sgx_brd x y, s2]
  have hp : ∀ a, 13 ≤ a → a < 17 → sgX a = fun _ => 0 := fun a x y => sgx_ppl x y
  have h0 := sgx_0
  have h55 := sgx_55
  have h57 := sgx_57
  have h59 := sgx_59
  have h102 := sgx_102
  rw [s3]
  generalize sgX = σ at hc hb hp h0 h55 h57 h59 h102
  have z : ∀ a b, z0 a b = 0 := fun _ _ => rfl
  have Q1 : ∀ x, x ≠ 103 → x ≠ 105 → x ≠ 106 → x ≠ 107 → x ≠ 108 → x ≠ 111 → ∀ b, φ1 x b = 0 := fun x a1 a2 a3 a4 a5 a6 b => by rw [q1 x a1 a2 a3 a4 a5 a6]; rfl
  have Q2 : ∀ b, b ≠ 11 → b ≠ 12 → φ1 103 b = 0 := fun b x y => q2 b x y
  refine ⟨⟨⟨3, 3, ⟨⟨q3, q4, by decide, by decide⟩, fun p hp' => ?_, fun q hq => .inl (q5 q hq).2.2.2.1, fun q q' hq _ _ => .inl (q5 q hq).2.2.2.1, fun p hp' => .inl (q5 p hp').2.2.2.2, 0, by decide, Q2 13 (by decide) (by decide), fun w hw => absurd hw (Nat.not_lt_zero _)⟩, ⟨?_, fun j hj => ?_, fun p hp' => ?_, fun q hq => ?_, ?_, fun w hw => ?_⟩, .inl (by rw [h59])⟩, ⟨by rw [h0]; exact Q2 25 (by decide) (by decide), .inl (by rw [h0])⟩, ⟨0, by decide, Q2 21 (by decide) (by decide), by rw [h55]; rfl, fun j hj => absurd hj (Nat.not_lt_zero _)⟩, ⟨0, by decide, Q2 39 (by decide) (by decide), by rw [h57]; rfl, fun j hj => absurd hj (Nat.not_lt_zero _)⟩, fun j hj => ?_⟩, by rw [hp 13 (by decide) (by decide)], Q2 13 (by decide) (by decide), Q2 14 (by decide) (by decide)⟩
  · have one : EdV 1 := ⟨1, by decide, by decide, .inl rfl⟩
    show EdV (φ1 105 p) ∧ EdV (φ1 106 p)
    rw [(q5 p hp').1, (q5 p hp').2.1]
    exact ⟨one, one⟩
  · refine (f2.fr (υ := σ) (fun j hj => hc _ (by omega) (by omega))).cg (fun q hq => ?_)
    exact ⟨(q5 q hq).1, (q5 q hq).2.1⟩
  · show nz (σ 5 j) = σ 5 j
    rw [hc 5 (by decide) (by decide)]
    rcases Nat.lt_or_ge j (3 * 3) with y | y
    · have := f2.2.2.2.2.2.2 j y
      rw [show υ1 5 j = b2 (rim 3 3 j) from this]
      exact nz_b
    · rw [show υ1 5 j = z0 5 j from f21 j y]; exact nz_0
  · show σ 6 p = φ1 107 p
    rw [hc 6 (by decide) (by decide), (q5 p (by omega)).2.2.1]
    exact f3 p hp'
  · have hq' := q5 q hq
    show σ 8 q = φ1 108 q ∧ σ 9 q = φ1 109 q ∧ σ 10 q = φ1 110 q ∧ σ 11 q = b2 (laidB (φ1 108) (3 * 3) (nI q)) ∧ σ 12 q = φ1 111 q
    rw [hb 8 (by decide) (by decide), hb 9 (by decide) (by decide), hb 10 (by decide) (by decide), hb 11 (by decide) (by decide), hb 12 (by decide) (by decide)]
    obtain ⟨c1, c2, c3⟩ := f7 q hq
    have hl : laidB (φ1 108) (3 * 3) (nI q) = false := by
      cases hb' : laidB (φ1 108) (3 * 3) (nI q) with
      | false => rfl
      | true =>
        obtain ⟨o, ho, e⟩ := laidB_iff.mp hb'
        rw [(q5 o (by omega)).2.2.2.1] at e
        exact absurd e.symm (nI_nm1 (by omega))
    refine ⟨c1.trans hq'.2.2.2.1.symm, ?_, ?_, by rw [hl]; exact c2, c3.trans hq'.2.2.2.2.symm⟩
    · rw [show υ2 9 = z0 9 from f5, Q1 109 (by decide) (by decide) (by decide) (by decide) (by decide) (by decide)]; rfl
    · rw [show υ2 10 = z0 10 from f6, Q1 110 (by decide) (by decide) (by decide) (by decide) (by decide) (by decide)]; rfl
  · show σ 13 0 = φ1 103 13
    rw [hp 13 (by decide) (by decide), Q2 13 (by decide) (by decide)]
  · show σ 14 w = φ1 112 w ∧ σ 15 w = φ1 113 w ∧ σ 16 w = φ1 114 w
    rw [hp 14 (by decide) (by decide), hp 15 (by decide) (by decide), hp 16 (by decide) (by decide), Q1 112 (by decide) (by decide) (by decide) (by decide) (by decide) (by decide), Q1 113 (by decide) (by decide) (by decide) (by decide) (by decide) (by decide), Q1 114 (by decide) (by decide) (by decide) (by decide) (by decide) (by decide)]
    exact ⟨rfl, rfl, rfl⟩
  · rw [h102, Q1 104 (by decide) (by decide) (by decide) (by decide) (by decide) (by decide)]
end ST
/-- both answer alike: the law goes on -/
theorem step_l {i : Nat} {f g : Rs} {K : Sg → Sg → Rs} (h : Rl i f g) (k : ∀ σ' τ', Inv i σ' τ' → ∃ o, K σ' τ' = some ((1 : Int32), o)) : ∃ o : Sg, p_call f (fun v s => p_call g (fun v' s' => if v = v' then K s s' else none)) = some ((1 : Int32), o) := by
  obtain ⟨v, σ', τ', a, b, I⟩ := h
  obtain ⟨o, e⟩ := k σ' τ' I
  refine ⟨o, ?_⟩
  rw [a, b, call_some, call_some, if_pos rfl]
  exact e
/-- both answer: the law goes on -/
theorem step_w {i : Nat} {f g : Rs} {K : Sg → Sg → Rs} (h : Rw i f g) (k : ∀ σ' τ', Inv i σ' τ' → ∃ o, K σ' τ' = some ((1 : Int32), o)) : ∃ o : Sg, p_call f (fun _ s => p_call g (fun _ s' => K s s')) = some ((1 : Int32), o) := by
  obtain ⟨v, v', σ', τ', a, b, I⟩ := h
  obtain ⟨o, e⟩ := k σ' τ' I
  refine ⟨o, ?_⟩
  rw [a, b, call_some, call_some]
  exact e
theorem Rc.w {i : Nat} {P : Prop} {f g : Rs} (h : Rc i P f g) : Rw i f g := by
  obtain ⟨v, v', σ', τ', a, b, e, -⟩ := h
  exact ⟨v, v', σ', τ', a, b, e⟩
theorem xsN {xs : Nat → Int32} {L j : Nat} {K : Int32 → Rs} (hj : j < L) (hL : L ≤ 320) : p_xs xs L (nI j) K = K (xs j) := by
  unfold p_xs
  rw [if_pos (ix_nI hj (by omega)), nI_clamp (by omega)]
theorem len_lt {L i : Nat} (hL : L ≤ 320) (h : L < 5 * i + 5) : Int32.ofNat L - 5 < nI (5 * i) ∨ 100 < i := by
  rcases Nat.lt_or_ge 100 i with q | q
  · exact .inr q
  refine .inl ?_
  have t : ∀ l, l < 5 → nI l - (5 : Int32) < 0 := by decide
  rcases Nat.lt_or_ge L 5 with u | u
  · exact Int32.lt_of_lt_of_le (t L u) (nI_pos' (by omega))
  · rw [show Int32.ofNat L - 5 = nI (L - 5) from pk_sub (b := 5) u]
    exact nI_lt (by omega) (by omega)
theorem len_ge {L i : Nat} (hL : L ≤ 320) (h : 5 * i + 5 ≤ L) : ¬ Int32.ofNat L - 5 < nI (5 * i) := by
  rw [show Int32.ofNat L - 5 = nI (L - 5) from pk_sub (b := 5) (by omega)]
  exact nI_nlt (by omega) (by omega)
