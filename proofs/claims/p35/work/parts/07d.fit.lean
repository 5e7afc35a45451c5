/-! the reference: a piece turned so has its flat sides just at the rim of a cell -/
theorem rg_cons {s : Nat} (h : s < 4) : List.range' s (4 - s) = s :: List.range' (s + 1) (4 - (s + 1)) := by
  rw [show 4 - s = (4 - (s + 1)) + 1 by omega]
  rfl
theorem le4 {s : Nat} (hs : s ≤ 4) : ((4 : Int32) ≤ nI s) ↔ s = 4 := by
  have h := nI_leI (a := 4) (b := s) (by decide) (by omega)
  exact ⟨fun q => by have := h.mp q; omega, fun q => h.mpr (by omega)⟩
/-- side s of p turned by t, and the rim of q there: both or neither -/
def rimOk (ri dn : Nat → Int32) (r c p t q s : Nat) : Bool := decide (sdv ri dn r c p ((s + 4 - t) % 4) = 0) == (bs r c q s).isNone
def atRim (ri dn : Nat → Int32) (r c p t q : Nat) : Bool := (List.range' 0 4).all (rimOk ri dn r c p t q)
theorem e_isAtRim_b3 {τ : Sg} {k r c p t q : Nat} (hz : Sz τ k r c) (hp : p < r * c) (ht : t < 4) (hq : q < r * c) : ∀ (n s : Nat), s ≤ 4 → 4 - s < n → Ev (f_X11_isAtRim_b3 k n (nI p) (nI t) (nI q) (nI s) τ) (fun x υ => x = (if (List.range' s (4 - s)).all (rimOk (τ (k + 2)) (τ (k + 3)) r c p t q) = true then 1 else 0) ∧ υ = τ)
  | 0, s, _, h => absurd h (Nat.not_lt_zero _)
  | n + 1, s, hs, h => by
    have hrc := hz.rc
    obtain ⟨z1, z2, z3, z4⟩ := id hz
    rw [f_X11_isAtRim_b3]
    refine Ev.ite (fun h4 => Ev.ret ⟨?_, rfl⟩) (fun h4 => ?_)
    · rw [(le4 hs).mp h4]; rfl
    · have h5 : s < 4 := by
        rcases Nat.lt_or_ge s 4 with u | u
        · exact u
        · exact absurd ((le4 hs).mpr (by omega)) h4
      refine Ev.call (e_turned hz hp h5 ht) (fun x υ hx => ?_)
      obtain ⟨rfl, rfl⟩ := hx
      have hge := bsI_ge (o := bs r c q s) (fun u h => by have := bs_lt z3 z4 hq h5 h; omega)
      rw [rg_cons h5, List.all_cons]
      have ih := e_isAtRim_b3 hz hp ht hq n (s + 1) (by omega) (by omega)
      -- what comes behind, once both bits are known
      have fin : ∀ a b : Int32, (a = b ↔ rimOk (υ (k + 2)) (υ (k + 3)) r c p t q s = true) → Ev (f_X11_isAtRim_b40 k (f_X11_isAtRim_b3 k n) (nI p) (nI t) (nI q) (nI s) a b υ) (fun x υ' => x = (if (rimOk (υ (k + 2)) (υ (k + 3)) r c p t q s && (List.range' (s + 1) (4 - (s + 1))).all (rimOk (υ (k + 2)) (υ (k + 3)) r c p t q)) = true then 1 else 0) ∧ υ' = υ) := by
        intro a b hab
        unfold f_X11_isAtRim_b40
        refine Ev.ite (fun e => ?_) (fun e => Ev.ret ⟨?_, rfl⟩)
        · rw [hab.mp e, Bool.true_and, nI_1]
          exact ih
        · have : rimOk (υ (k + 2)) (υ (k + 3)) r c p t q s = false := by
            cases hb : rimOk (υ (k + 2)) (υ (k + 3)) r c p t q s with
            | false => rfl
            | true => exact absurd (hab.mpr hb) e
          rw [this, Bool.false_and]
          rfl
      have next : ∀ a : Int32, ∀ A : Bool, (a = if A = true then 1 else 0) → (decide (sdv (υ (k + 2)) (υ (k + 3)) r c p ((s + 4 - t) % 4) = 0) = A) → Ev (f_X11_isAtRim_b25 k (f_X11_isAtRim_b3 k n) (nI p) (nI t) (nI q) (nI s) a υ) (fun x υ' => x = (if (rimOk (υ (k + 2)) (υ (k + 3)) r c p t q s && (List.range' (s + 1) (4 - (s + 1))).all (rimOk (υ (k + 2)) (υ (k + 3)) r c p t q)) = true then 1 else 0) ∧ υ' = υ) := by
        intro a A ha hA
        unfold f_X11_isAtRim_b25
        refine Ev.call (e_beside z1 z2 z3 z4 hq h5) (fun y υ' hy => ?_)
        obtain ⟨rfl, rfl⟩ := hy
        refine Ev.ite (fun e => fin _ _ ?_) (fun e => fin _ _ ?_)
        · have h7 : (bs r c q s).isNone = false := by
            have := hge.mp e
            cases hb : bs r c q s with
            | none => rw [hb] at this; cases this
            | some u => rfl
          unfold rimOk
          rw [h7, hA, ha]
          cases A <;> decide
        · have h7 : (bs r c q s).isNone = true := by
            cases hb : bs r c q s with
            | none => rfl
            | some u => rw [hb] at hge e; exact absurd (hge.mpr rfl) e
          unfold rimOk
          rw [h7, hA, ha]
          cases A <;> decide
      refine Ev.ite (fun e => next 1 true rfl (decide_eq_true e)) (fun e => next 0 false rfl (decide_eq_false e))
theorem e_isAtRim {τ : Sg} {k r c p t q : Nat} (hz : Sz τ k r c) (hp : p < r * c) (ht : t < 4) (hq : q < r * c) : Ev (f_X11_isAtRim k (nI p) (nI t) (nI q) τ) (fun x υ => x = (if atRim (τ (k + 2)) (τ (k + 3)) r c p t q = true then 1 else 0) ∧ υ = τ) := e_isAtRim_b3 hz hp ht hq fu 0 (by decide) (by decide)
