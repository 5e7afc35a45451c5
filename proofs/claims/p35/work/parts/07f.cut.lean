/-! the class's Cut: it holds the puzzle of r rows, c columns and the edges ri, dn; fits as the reference's does -/
def CutOk (σ : Sg) (k r c : Nat) (ri dn : Nat → Int32) : Prop := σ k 0 = nI r ∧ σ k 1 = nI c ∧ σ k 2 = nI (r * c) ∧ (2 ≤ r ∧ r < 5) ∧ (2 ≤ c ∧ c < 5) ∧ (∀ p, p < r * c → ∀ s, s < 4 → σ (k + 2) (p * 4 + s) = bsI (bs r c p s) ∧ σ (k + 1) (p * 4 + s) = sdv ri dn r c p s) ∧ ∀ p, p < r * c → σ (k + 3) p = (if rim r c p = true then 1 else 0)
theorem CutOk.rc {σ : Sg} {k r c : Nat} {ri dn : Nat → Int32} (h : CutOk σ k r c ri dn) : r * c ≤ 16 := by
  obtain ⟨-, -, -, ⟨a, b⟩, ⟨d, e⟩, -⟩ := h
  have h1 : r ≤ 4 := by omega
  have h2 : c ≤ 4 := by omega
  exact Nat.mul_le_mul h1 h2
theorem nI_p4 (p s : Nat) : nI p * 4 + nI s = nI (p * 4 + s) := by
  rw [show (4 : Int32) = nI 4 from rfl, pk_mul, nI_add]
theorem c_beside {σ : Sg} {k r c p s : Nat} {ri dn : Nat → Int32} (h : CutOk σ k r c ri dn) (hp : p < r * c) (hs : s < 4) : Ev (f_X1_beside k (nI p) (nI s) σ) (fun x υ => x = bsI (bs r c p s) ∧ υ = σ) := by
  have hrc := h.rc
  unfold f_X1_beside
  rw [nI_p4]
  refine Ev.rd (ix_nI (by omega) (by decide)) (Ev.ret ⟨?_, rfl⟩)
  rw [nI_clamp (by omega)]
  exact (h.2.2.2.2.2.1 p hp s hs).1
theorem c_sideOf {σ : Sg} {k r c p s t : Nat} {ri dn : Nat → Int32} (h : CutOk σ k r c ri dn) (hp : p < r * c) (hs : s < 4) (ht : t < 4) : Ev (f_X1_sideOf k (nI p) (nI t) (nI s) σ) (fun x υ => x = sdv ri dn r c p ((s + 4 - t) % 4) ∧ υ = σ) := by
  have hrc := h.rc
  have hm : (s + 4 - t) % 4 < 4 := Nat.mod_lt _ (by decide)
  unfold f_X1_sideOf
  rw [trn_tab s hs t ht, nI_p4]
  refine Ev.rd (ix_nI (by omega) (by decide)) (Ev.ret ⟨?_, rfl⟩)
  rw [nI_clamp (by omega)]
  exact (h.2.2.2.2.2.1 p hp _ hm).2
theorem bsI_m1 {o : Option Nat} (h : ∀ q, o = some q → q < 2 ^ 31) : (bsI o = -1) ↔ o.isNone = true := by
  cases o with
  | none => simp [bsI]
  | some q =>
    have : 0 ≤ bsI (some q) := nI_pos' (h q rfl)
    simp only [Option.isNone_some, Bool.false_eq_true, iff_false]
    intro e
    rw [e] at this
    exact absurd this (by decide)
theorem c_suitsRim_b3 {σ : Sg} {k r c p t q : Nat} {ri dn : Nat → Int32} (hz : CutOk σ k r c ri dn) (hp : p < r * c) (ht : t < 4) (hq : q < r * c) : ∀ (n s : Nat), s ≤ 4 → 4 - s < n → Ev (f_X1_suitsRim_b3 k n (nI p) (nI t) (nI q) (nI s) σ) (fun x υ => x = (if (List.range' s (4 - s)).all (rimOk ri dn r c p t q) = true then 1 else 0) ∧ υ = σ)
  | 0, s, _, h => absurd h (Nat.not_lt_zero _)
  | n + 1, s, hs, h => by
    have hrc := hz.rc
    have z3 := hz.2.2.2.1
    have z4 := hz.2.2.2.2.1
    rw [f_X1_suitsRim_b3]
    refine Ev.ite (fun h4 => Ev.ret ⟨?_, rfl⟩) (fun h4 => ?_)
    · rw [(le4 hs).mp h4]; rfl
    · have h5 : s < 4 := by
        rcases Nat.lt_or_ge s 4 with u | u
        · exact u
        · exact absurd ((le4 hs).mpr (by omega)) h4
      refine Ev.call (c_sideOf hz hp h5 ht) (fun x υ hx => ?_)
      obtain ⟨rfl, rfl⟩ := hx
      have hm1 := bsI_m1 (o := bs r c q s) (fun u h => by have := bs_lt z3 z4 hq h5 h; omega)
      rw [rg_cons h5, List.all_cons]
      have ih := c_suitsRim_b3 hz hp ht hq n (s + 1) (by omega) (by omega)
      have fin : ∀ a b : Int32, (a = b ↔ rimOk ri dn r c p t q s = true) → Ev (f_X1_suitsRim_b41 k (f_X1_suitsRim_b3 k n) (nI p) (nI t) (nI q) (nI s) a b υ) (fun x υ' => x = (if (rimOk ri dn r c p t q s && (List.range' (s + 1) (4 - (s + 1))).all (rimOk ri dn r c p t q)) = true then 1 else 0) ∧ υ' = υ) := by
        intro a b hab
        unfold f_X1_suitsRim_b41
        refine Ev.ite (fun e => ?_) (fun e => Ev.ret ⟨?_, rfl⟩)
        · rw [hab.mp e, Bool.true_and, nI_1]
          exact ih
        · have : rimOk ri dn r c p t q s = false := by
            cases hb : rimOk ri dn r c p t q s with
            | false => rfl
            | true => exact absurd (hab.mpr hb) e
          rw [this, Bool.false_and]
          rfl
      have next : ∀ a : Int32, ∀ A : Bool, (a = if A = true then 1 else 0) → (decide (sdv ri dn r c p ((s + 4 - t) % 4) = 0) = A) → Ev (f_X1_suitsRim_b25 k (f_X1_suitsRim_b3 k n) (nI p) (nI t) (nI q) (nI s) a υ) (fun x υ' => x = (if (rimOk ri dn r c p t q s && (List.range' (s + 1) (4 - (s + 1))).all (rimOk ri dn r c p t q)) = true then 1 else 0) ∧ υ' = υ) := by
        intro a A ha hA
        unfold f_X1_suitsRim_b25
        refine Ev.call (c_beside hz hq h5) (fun y υ' hy => ?_)
        obtain ⟨rfl, rfl⟩ := hy
        refine Ev.ite (fun e => fin _ _ ?_) (fun e => fin _ _ ?_)
        · unfold rimOk
          rw [hm1.mp e, hA, ha]
          cases A <;> decide
        · have h7 : (bs r c q s).isNone = false := by
            cases hb : (bs r c q s).isNone with
            | false => rfl
            | true => exact absurd (hm1.mpr hb) e
          unfold rimOk
          rw [h7, hA, ha]
          cases A <;> decide
      refine Ev.ite (fun e => next 1 true rfl (decide_eq_true e)) (fun e => next 0 false rfl (decide_eq_false e))
theorem c_suitsRim {σ : Sg} {k r c p t q : Nat} {ri dn : Nat → Int32} (hz : CutOk σ k r c ri dn) (hp : p < r * c) (ht : t < 4) (hq : q < r * c) : Ev (f_X1_suitsRim k (nI p) (nI t) (nI q) σ) (fun x υ => x = (if atRim ri dn r c p t q = true then 1 else 0) ∧ υ = σ) := c_suitsRim_b3 hz hp ht hq fu 0 (by decide) (by decide)
