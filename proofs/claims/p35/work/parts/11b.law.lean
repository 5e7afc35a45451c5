/-! the law: every call answers, the compared ones alike -/
set_option maxRecDepth 100000 in
set_option maxHeartbeats 4000000 in
theorem law_step {xs : Nat → Int32} {L i n : Nat} {σ τ : Sg} (hL : L ≤ 320) (hi : 5 * i + 5 ≤ L) (h : Inv i σ τ) (ih : ∀ σ' τ', Inv (i + 1) σ' τ' → ∃ o, f_L_law_b1113 xs L (f_L_law_b18 xs L n) (nI (5 * i)) σ' τ' = some ((1 : Int32), o)) : ∃ o, f_L_law_b18 xs L (n + 1) (nI (5 * i)) σ τ = some ((1 : Int32), o) := by
  have e1 : nI (5 * i) + 1 = nI (5 * i + 1) := nI_add (5 * i) 1
  have e2 : nI (5 * i) + 2 = nI (5 * i + 2) := nI_add (5 * i) 2
  have e3 : nI (5 * i) + 3 = nI (5 * i + 3) := nI_add (5 * i) 3
  have e4 : nI (5 * i) + 4 = nI (5 * i + 4) := nI_add (5 * i) 4
  have ih' : ∀ σ' τ', Inv i σ' τ' → ∃ o, f_L_law_b1113 xs L (f_L_law_b18 xs L n) (nI (5 * i)) σ' τ' = some ((1 : Int32), o) := fun σ' τ' I => ih σ' τ' (I.mono (by omega))
  rw [f_L_law_b18, if_neg (len_ge hL hi), xsN (by omega) hL]
  generalize xs (5 * i) = w
  by_cases c0 : w &&& 63 = 0
  · rw [if_pos c0]
    simp (disch := omega) only [e1, e2, e3, e4, xsN]
    exact step_w (r_feed h).w ih'
  rw [if_neg c0]
  by_cases c1 : w &&& 63 = 1
  · rw [if_pos c1]
    exact step_w (r_puzzle h).w ih'
  rw [if_neg c1]
  by_cases c2 : w &&& 63 = 2
  · rw [if_pos c2]
    simp (disch := omega) only [e1, e2, e3, e4, xsN]
    exact step_w (r_side h).w ih'
  rw [if_neg c2]
  by_cases c3 : w &&& 63 = 3
  · rw [if_pos c3]
    simp (disch := omega) only [e1, e2, e3, e4, xsN]
    exact step_w (r_colour h).w ih'
  rw [if_neg c3]
  by_cases c4 : w &&& 63 = 4
  · rw [if_pos c4]
    simp (disch := omega) only [e1, e2, e3, e4, xsN]
    exact step_w (r_person h).w ih'
  rw [if_neg c4]
  by_cases c5 : w &&& 63 = 5
  · rw [if_pos c5]
    simp (disch := omega) only [e1, e2, e3, e4, xsN]
    exact step_w (r_laid h).w ih'
  rw [if_neg c5]
  by_cases c6 : w &&& 63 = 6
  · rw [if_pos c6]
    simp (disch := omega) only [e1, e2, e3, e4, xsN]
    exact step_w (r_fits h).w ih'
  rw [if_neg c6]
  by_cases c7 : w &&& 63 = 7
  · rw [if_pos c7]
    simp (disch := omega) only [e1, e2, e3, e4, xsN]
    exact step_w (r_seconds h) ih'
  rw [if_neg c7]
  by_cases c8 : w &&& 63 = 8
  · rw [if_pos c8]
    simp (disch := omega) only [e1, e2, e3, e4, xsN]
    exact step_w (r_tryIt h).w ih
  rw [if_neg c8]
  by_cases c9 : w &&& 63 = 9
  · rw [if_pos c9]
    simp (disch := omega) only [e1, e2, e3, e4, xsN]
    exact step_w (r_lift h).w ih'
  rw [if_neg c9]
  by_cases c10 : w &&& 63 = 10
  · rw [if_pos c10]
    simp (disch := omega) only [e1, e2, e3, e4, xsN]
    exact step_w (r_pocket h).w ih'
  rw [if_neg c10]
  by_cases c11 : w &&& 63 = 11
  · rw [if_pos c11]
    simp (disch := omega) only [e1, e2, e3, e4, xsN]
    exact step_w (r_find h).w ih'
  rw [if_neg c11]
  by_cases c12 : w &&& 63 = 12
  · rw [if_pos c12]
    simp (disch := omega) only [e1, e2, e3, e4, xsN]
    exact step_w (r_ways h).w ih'
  rw [if_neg c12]
  by_cases c13 : w &&& 63 = 13
  · rw [if_pos c13]
    simp (disch := omega) only [e1, e2, e3, e4, xsN]
    exact step_w (r_first h).w ih'
  rw [if_neg c13]
  by_cases c14 : w &&& 63 = 14
  · rw [if_pos c14]
    simp (disch := omega) only [e1, e2, e3, e4, xsN]
    exact step_w (r_done h).w ih'
  rw [if_neg c14]
  by_cases c15 : w &&& 63 = 15
  · rw [if_pos c15]
    simp (disch := omega) only [e1, e2, e3, e4, xsN]
    exact step_w (r_half h).w ih'
  rw [if_neg c15]
  by_cases c16 : w &&& 63 = 16
  · rw [if_pos c16]
    simp (disch := omega) only [e1, e2, e3, e4, xsN]
    exact step_w (r_bestRule h).w ih'
  rw [if_neg c16]
  by_cases c17 : w &&& 63 = 17
  · rw [if_pos c17]
    simp (disch := omega) only [e1, e2, e3, e4, xsN]
    exact step_w (r_table h).w ih'
  rw [if_neg c17]
  by_cases c18 : w &&& 63 = 18
  · rw [if_pos c18]
    simp (disch := omega) only [e1, e2, e3, e4, xsN]
    exact step_w (r_line h).w ih'
  rw [if_neg c18]
  by_cases c19 : w &&& 63 = 19
  · rw [if_pos c19]
    exact step_w (r_seems h).w ih'
  rw [if_neg c19]
  by_cases c20 : w &&& 63 = 20
  · rw [if_pos c20]
    exact step_w (r_wrong h).w ih'
  rw [if_neg c20]
  by_cases c21 : w &&& 63 = 21
  · rw [if_pos c21]
    exact step_w (r_falseOne h).w ih'
  rw [if_neg c21]
  by_cases c22 : w &&& 63 = 22
  · rw [if_pos c22]
    exact step_w (r_over h).w ih'
  rw [if_neg c22]
  by_cases c23 : w &&& 63 = 23
  · rw [if_pos c23]
    simp (disch := omega) only [e1, e2, e3, e4, xsN]
    exact step_w (r_balance h).w ih'
  rw [if_neg c23]
  by_cases c24 : w &&& 63 = 24
  · rw [if_pos c24]
    exact step_w (r_lacks h).w ih'
  rw [if_neg c24]
  by_cases c25 : w &&& 63 = 25
  · rw [if_pos c25]
    exact step_w (r_which h).w ih'
  rw [if_neg c25]
  by_cases c26 : w &&& 63 = 26
  · rw [if_pos c26]
    simp (disch := omega) only [e1, e2, e3, e4, xsN]
    exact step_w (r_mine (by omega) h).w ih'
  rw [if_neg c26]
  by_cases c27 : w &&& 63 = 27
  · rw [if_pos c27]
    exact step_w (r_hardest h).w ih'
  rw [if_neg c27]
  by_cases c28 : w &&& 63 = 28
  · rw [if_pos c28]
    simp (disch := omega) only [e1, e2, e3, e4, xsN]
    exact step_w (r_keeper h).w ih'
  rw [if_neg c28]
  by_cases c29 : w &&& 63 = 29
  · rw [if_pos c29]
    simp (disch := omega) only [e1, e2, e3, e4, xsN]
    exact step_w (r_evening h).w ih'
  rw [if_neg c29]
  by_cases c30 : w &&& 63 = 30
  · rw [if_pos c30]
    simp (disch := omega) only [e1, e2, e3, e4, xsN]
    exact step_w (r_row h).w ih'
  rw [if_neg c30]
  by_cases c31 : w &&& 63 = 31
  · rw [if_pos c31]
    exact step_w (r_judge h).w ih'
  rw [if_neg c31]
  by_cases c32 : w &&& 63 = 32
  · rw [if_pos c32]
    exact step_w (r_image h).w ih'
  rw [if_neg c32]
  by_cases c33 : w &&& 63 = 33
  · rw [if_pos c33]
    exact step_l (r_on h) ih'
  rw [if_neg c33]
  by_cases c34 : w &&& 63 = 34
  · rw [if_pos c34]
    simp (disch := omega) only [e1, e2, e3, e4, xsN]
    exact step_w (r_count h).w ih'
  rw [if_neg c34]
  exact ih' σ τ h
theorem law_go {xs : Nat → Int32} {L : Nat} (hL : L ≤ 320) : ∀ (m i n : Nat) (σ τ : Sg), L < 5 * (i + m) + 5 → i + m ≤ 64 → m < n → Inv i σ τ → ∃ o, f_L_law_b18 xs L n (nI (5 * i)) σ τ = some ((1 : Int32), o)
  | 0, i, n, σ, τ, h1, h2, h3, h => by
    obtain ⟨n', rfl⟩ : ∃ n', n = n' + 1 := ⟨n - 1, by omega⟩
    refine ⟨σ, ?_⟩
    rw [f_L_law_b18, if_pos ((len_lt hL (by omega)).resolve_right (by omega))]
  | m + 1, i, n, σ, τ, h1, h2, h3, h => by
    obtain ⟨n', rfl⟩ : ∃ n', n = n' + 1 := ⟨n - 1, by omega⟩
    rcases Nat.lt_or_ge L (5 * i + 5) with q | q
    · refine ⟨σ, ?_⟩
      rw [f_L_law_b18, if_pos ((len_lt hL q).resolve_right (by omega))]
    · refine law_step hL q h (fun σ' τ' I => ?_)
      unfold f_L_law_b1113
      rw [show nI (5 * i) + 5 = nI (5 * (i + 1)) from nI_add (5 * i) 5]
      exact law_go hL m (i + 1) n' σ' τ' (by omega) (by omega) (by omega) I
theorem law_pure {L : Nat} (xs : Nat → Int32) (hL : L ≤ 320) : ∃ σ' : Sg, f_L_law_b18 xs L fu 0 sgX sgM = some (1, σ') := law_go hL 64 0 fu sgX sgM (by omega) (by decide) (by unfold fu; omega) inv_start.1
