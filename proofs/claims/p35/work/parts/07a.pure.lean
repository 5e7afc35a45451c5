/-! the pure part: what a pure function comes to (Ev), its rules; numbers; the reference's small methods -/
def Ev (f : Rs) (Q : Int32 → Sg → Prop) : Prop := ∃ (r : Int32) (τ : Sg), f = some (r, τ) ∧ Q r τ
theorem Ev.ret {r : Int32} {τ : Sg} {Q : Int32 → Sg → Prop} (h : Q r τ) : Ev (some (r, τ)) Q := ⟨r, τ, rfl, h⟩
theorem Ev.mono {f : Rs} {P Q : Int32 → Sg → Prop} (h : Ev f P) (hi : ∀ r τ, P r τ → Q r τ) : Ev f Q := by
  obtain ⟨r, τ, e, p⟩ := h
  exact ⟨r, τ, e, hi r τ p⟩
theorem Ev.call {f : Rs} {K : Int32 → Sg → Rs} {P Q : Int32 → Sg → Prop} (h : Ev f P) (hk : ∀ r τ, P r τ → Ev (K r τ) Q) : Ev (p_call f K) Q := by
  obtain ⟨r, τ, e, p⟩ := h
  subst e
  exact hk r τ p
theorem Ev.ite {c : Prop} [Decidable c] {A B : Rs} {Q : Int32 → Sg → Prop} (ht : c → Ev A Q) (hf : ¬ c → Ev B Q) : Ev (if c then A else B) Q := by
  by_cases h : c
  · rw [if_pos h]; exact ht h
  · rw [if_neg h]; exact hf h
theorem Ev.rd {σ : Sg} {k n : Nat} {i : Int32} {K : Int32 → Rs} {Q : Int32 → Sg → Prop} (hi : ix i n = true) (hk : Ev (K (σ k i.toNatClampNeg)) Q) : Ev (p_rd σ k n i K) Q := by
  unfold p_rd; rw [if_pos hi]; exact hk
theorem Ev.wr {σ : Sg} {k n : Nat} {i v : Int32} {K : Sg → Rs} {Q : Int32 → Sg → Prop} (hi : ix i n = true) (hk : Ev (K (sg_up σ k i.toNatClampNeg v)) Q) : Ev (p_wr σ k n i v K) Q := by
  unfold p_wr; rw [if_pos hi]; exact hk
theorem Ev.put {σ : Sg} {k j : Nat} {v : Int32} {K : Sg → Rs} {Q : Int32 → Sg → Prop} (hk : Ev (K (sg_up σ k j v)) Q) : Ev (p_put σ k j v K) Q := hk
theorem Ev.nz {y : Int32} {K : Rs} {Q : Int32 → Sg → Prop} (hy : ¬ y = 0) (hk : Ev K Q) : Ev (p_nz y K) Q := by
  unfold p_nz; rw [if_neg hy]; exact hk
theorem Ev.bo {y : Int32} {K : Rs} {Q : Int32 → Sg → Prop} (hy : y = 0 ∨ y = 1) (hk : Ev K Q) : Ev (p_bo y K) Q := by
  unfold p_bo; rw [if_pos hy]; exact hk
theorem Ev.xs {xs : Nat → Int32} {n : Nat} {i : Int32} {K : Int32 → Rs} {Q : Int32 → Sg → Prop} (hi : ix i n = true) (hk : Ev (K (xs i.toNatClampNeg)) Q) : Ev (p_xs xs n i K) Q := by
  unfold p_xs; rw [if_pos hi]; exact hk
theorem ix_nI {j n : Nat} (h : j < n) (hn : n < 2 ^ 31) : ix (nI j) n = true := by
  unfold ix
  rw [nI_clamp (by omega)]
  simp only [Bool.and_eq_true, decide_eq_true_eq]
  exact ⟨nI_pos' (by omega), h⟩
/-- an index that is in range is a small number -/
theorem ix_of {x : Int32} {n : Nat} (h : ix x n = true) (hn : n < 2 ^ 31) : ∃ j : Nat, j < n ∧ x = nI j := vp_in_of (ix_in h) hn
theorem ix_range {x M : Int32} {n : Nat} (hM : M.toInt = n) (h0 : 0 ≤ x) (h1 : x < M) (hn : n < 2 ^ 31) : ix x n = true := by
  obtain ⟨j, hj, e⟩ := nI_of (Int32.not_lt.mpr h0)
  have h2 : (j : Int) < n := by
    have h3 := Int32.lt_iff_toInt_lt.mp h1
    rw [e, nI_toInt hj, hM] at h3
    exact h3
  rw [e]
  exact ix_nI (by omega) hn
theorem up_s {σ : Sg} {k i : Nat} {v : Int32} : sg_up σ k i v k i = v := by simp [sg_up]
theorem up_n {σ : Sg} {k i a b : Nat} {v : Int32} (h : ¬ (a = k ∧ b = i)) : sg_up σ k i v a b = σ a b := if_neg h
-- the reference's refusals: five places of its array, counted
theorem e_no {τ : Sg} {k : Nat} {x : Int32} (h : ix (-x) 7 = true) : Ev (f_X11_no k x τ) (fun r υ => r = x ∧ υ = sg_up τ (k + 1) (-x).toNatClampNeg (τ (k + 1) (-x).toNatClampNeg + 1)) := Ev.rd h (Ev.wr h (Ev.ret ⟨rfl, rfl⟩))
theorem e_lower {τ : Sg} {k : Nat} {x : Int32} (h : ix (-x) 7 = true) : Ev (f_X11_lower k x τ) (fun r υ => r = 1000000000 - x ∧ υ = sg_up τ (k + 1) (-x).toNatClampNeg (τ (k + 1) (-x).toNatClampNeg + 1)) := Ev.rd h (Ev.wr h (Ev.ret ⟨rfl, rfl⟩))
theorem e_isIn {τ : Sg} {x a b : Int32} : Ev (f_X11_isIn x a b τ) (fun r υ => r = (if a ≤ x ∧ x ≤ b then 1 else 0) ∧ υ = τ) := by
  unfold f_X11_isIn
  refine Ev.ite (fun h => Ev.ret ⟨?_, rfl⟩) (fun h => Ev.ite (fun h2 => Ev.ret ⟨?_, rfl⟩) (fun h2 => Ev.ret ⟨?_, rfl⟩))
  · rw [if_neg (fun q => absurd h (Int32.not_lt.mpr q.1))]
  · rw [if_neg (fun q => absurd h2 (Int32.not_lt.mpr q.2))]
  · rw [if_pos ⟨Int32.not_lt.mp h, Int32.not_lt.mp h2⟩]
theorem e_bound {τ : Sg} {x a b : Int32} : Ev (f_X11_bound x a b τ) (fun r υ => r = (if a ≤ x then (if x ≤ b then 0 else -6) else -4) ∧ υ = τ) := by
  unfold f_X11_bound
  refine Ev.ite (fun h => Ev.ite (fun h2 => Ev.ret ⟨?_, rfl⟩) (fun h2 => Ev.ret ⟨?_, rfl⟩)) (fun h => Ev.ret ⟨?_, rfl⟩)
  · rw [if_pos h, if_pos h2]
  · rw [if_pos h, if_neg h2]
  · rw [if_neg h]
theorem e_cells {τ : Sg} {k : Nat} : Ev (f_X11_cells k τ) (fun r υ => r = τ k 11 * τ k 12 ∧ υ = τ) := Ev.ret ⟨rfl, rfl⟩
theorem e_isCell {τ : Sg} {k : Nat} {x : Int32} : Ev (f_X11_isCell k x τ) (fun r υ => r = (if 0 ≤ x ∧ x < τ k 11 * τ k 12 then 1 else 0) ∧ υ = τ) := by
  unfold f_X11_isCell
  refine Ev.ite (fun h => Ev.ret ⟨?_, rfl⟩) (fun h => Ev.call e_cells (fun r υ hr => ?_))
  · rw [if_neg (fun q => absurd h (Int32.not_lt.mpr q.1))]
  · obtain ⟨rfl, rfl⟩ := hr
    refine Ev.ite (fun h2 => Ev.ret ⟨?_, rfl⟩) (fun h2 => Ev.ret ⟨?_, rfl⟩)
    · rw [if_neg (fun q => absurd q.2 (Int32.not_lt.mpr h2))]
    · rw [if_pos ⟨Int32.not_lt.mp h, Int32.not_le.mp h2⟩]
theorem e_isPerson {τ : Sg} {k : Nat} {x : Int32} : Ev (f_X11_isPerson k x τ) (fun r υ => r = (if 0 ≤ x ∧ x < τ k 13 then 1 else 0) ∧ υ = τ) := by
  unfold f_X11_isPerson
  refine Ev.ite (fun h => Ev.ret ⟨?_, rfl⟩) (fun h => Ev.ite (fun h2 => Ev.ret ⟨?_, rfl⟩) (fun h2 => Ev.ret ⟨?_, rfl⟩))
  · rw [if_neg (fun q => absurd h (Int32.not_lt.mpr q.1))]
  · rw [if_neg (fun q => absurd q.2 (Int32.not_lt.mpr h2))]
  · rw [if_pos ⟨Int32.not_lt.mp h, Int32.not_le.mp h2⟩]
