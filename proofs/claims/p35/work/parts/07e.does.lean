/-! the reference: whether a piece fits, and the kind of a try -/
/-- what lies on the reference's board: nothing (-1), or a piece that is there in a turn -/
def Bd (τ : Sg) (k r c : Nat) : Prop := ∀ q, q < r * c → τ (k + 5) q = -1 ∨ ((∃ p, p < r * c ∧ τ (k + 5) q = nI p) ∧ ∃ t, t < 4 ∧ τ (k + 6) q = nI t)
def nbOk (ri dn pc tn : Nat → Int32) (r c p t q s : Nat) : Bool := match bs r c q s with
  | none => true
  | some o => decide (pc o < 0) || decide (pc o = nI p) || decide (sdv ri dn r c p ((s + 4 - t) % 4) + sdv ri dn r c (pc o).toNatClampNeg (((s + 2) % 4 + 4 - (tn o).toNatClampNeg) % 4) = 0)
theorem opp_tab : ∀ s, s < 4 → (nI s + 2) - (nI s + 2) / 4 * 4 = nI ((s + 2) % 4) := by decide +kernel
theorem e_doesFit_b15 {τ : Sg} {k r c p t q : Nat} (hz : Sz τ k r c) (hb : Bd τ k r c) (hp : p < r * c) (ht : t < 4) (hq : q < r * c) : ∀ (n s : Nat), s ≤ 4 → 4 - s < n → Ev (f_X11_doesFit_b15 k n (nI p) (nI t) (nI q) (nI s) τ) (fun x υ => x = (if (List.range' s (4 - s)).all (nbOk (τ (k + 2)) (τ (k + 3)) (τ (k + 5)) (τ (k + 6)) r c p t q) = true then 1 else 0) ∧ υ = τ)
  | 0, s, _, h => absurd h (Nat.not_lt_zero _)
  | n + 1, s, hs, h => by
    have hrc := hz.rc
    obtain ⟨z1, z2, z3, z4⟩ := id hz
    rw [f_X11_doesFit_b15]
    refine Ev.ite (fun h4 => Ev.ret ⟨?_, rfl⟩) (fun h4 => ?_)
    · rw [(le4 hs).mp h4]; rfl
    · have h5 : s < 4 := by
        rcases Nat.lt_or_ge s 4 with u | u
        · exact u
        · exact absurd ((le4 hs).mpr (by omega)) h4
      refine Ev.call (e_beside z1 z2 z3 z4 hq h5) (fun x υ hx => ?_)
      obtain ⟨rfl, rfl⟩ := hx
      rw [rg_cons h5, List.all_cons]
      have ih := e_doesFit_b15 hz hb hp ht hq n (s + 1) (by omega) (by omega)
      have go : nbOk (υ (k + 2)) (υ (k + 3)) (υ (k + 5)) (υ (k + 6)) r c p t q s = true → Ev (f_X11_doesFit_b94 k (f_X11_doesFit_b15 k n) (nI p) (nI t) (nI q) (nI s) υ) (fun x υ' => x = (if (nbOk (υ (k + 2)) (υ (k + 3)) (υ (k + 5)) (υ (k + 6)) r c p t q s && (List.range' (s + 1) (4 - (s + 1))).all (nbOk (υ (k + 2)) (υ (k + 3)) (υ (k + 5)) (υ (k + 6)) r c p t q)) = true then 1 else 0) ∧ υ' = υ) := by
        intro e
        unfold f_X11_doesFit_b94
        rw [e, Bool.true_and, nI_1]
        exact ih
      cases hn : bs r c q s with
      | none =>
        refine Ev.ite (fun _ => go ?_) (fun e => absurd (show (-1 : Int32) < 0 by decide) e)
        unfold nbOk; rw [hn]
      | some o =>
        have ho := bs_lt z3 z4 hq h5 hn
        have io : ix (nI o) 16 = true := ix_nI (by omega) (by decide)
        have co : (nI o).toNatClampNeg = o := nI_clamp (by omega)
        have cob : (bsI (some o)).toNatClampNeg = o := co
        refine Ev.ite (fun e => absurd e (nI_pos (by omega))) (fun _ => ?_)
        show Ev (p_rd υ (k + 5) 16 (nI o) _) _
        refine Ev.rd io ?_
        rw [co]
        refine Ev.ite (fun e => go ?_) (fun e => ?_)
        · unfold nbOk; rw [hn]; simp [e]
        · show Ev (p_rd υ (k + 5) 16 (nI o) _) _
          refine Ev.rd io ?_
          rw [co]
          refine Ev.ite (fun e2 => go ?_) (fun e2 => ?_)
          · unfold nbOk; rw [hn]; simp [e2]
          · rcases hb o ho with h9 | ⟨⟨p2, hp2, e3⟩, t2, ht2, e4⟩
            · rw [h9] at e; exact absurd (by decide) e
            · refine Ev.call (e_turned hz hp h5 ht) (fun x υ' hx => ?_)
              obtain ⟨rfl, rfl⟩ := hx
              show Ev (p_rd υ' (k + 5) 16 (nI o) _) _
              refine Ev.rd io ?_
              refine Ev.rd io ?_
              rw [co, cob, e3, e4, opp_tab s h5]
              refine Ev.call (e_turned hz hp2 (Nat.mod_lt _ (by decide)) ht2) (fun y υ'' hy => ?_)
              obtain ⟨rfl, rfl⟩ := hy
              have cp : (nI p2).toNatClampNeg = p2 := nI_clamp (by omega)
              have ct : (nI t2).toNatClampNeg = t2 := nI_clamp (by omega)
              have hval : nbOk (υ'' (k + 2)) (υ'' (k + 3)) (υ'' (k + 5)) (υ'' (k + 6)) r c p t q s = decide (sdv (υ'' (k + 2)) (υ'' (k + 3)) r c p ((s + 4 - t) % 4) + sdv (υ'' (k + 2)) (υ'' (k + 3)) r c p2 (((s + 2) % 4 + 4 - t2) % 4) = 0) := by
                unfold nbOk
                rw [hn]
                show (decide (υ'' (k + 5) o < 0) || decide (υ'' (k + 5) o = nI p) || _) = _
                rw [decide_eq_false e, decide_eq_false e2, e3, e4, cp, ct]
                rfl
              refine Ev.ite (fun e5 => go ?_) (fun e5 => Ev.ret ⟨?_, rfl⟩)
              · rw [hval]; exact decide_eq_true e5
              · rw [hval, decide_eq_false e5, Bool.false_and]; rfl
/-- p in the turn t fits the cell q -/
def fit (ri dn pc tn : Nat → Int32) (r c p t q : Nat) : Bool := atRim ri dn r c p t q && (List.range' 0 4).all (nbOk ri dn pc tn r c p t q)
theorem e_doesFit {τ : Sg} {k r c p t q : Nat} (hz : Sz τ k r c) (hb : Bd τ k r c) (hp : p < r * c) (ht : t < 4) (hq : q < r * c) : Ev (f_X11_doesFit k (nI p) (nI t) (nI q) τ) (fun x υ => x = (if fit (τ (k + 2)) (τ (k + 3)) (τ (k + 5)) (τ (k + 6)) r c p t q = true then 1 else 0) ∧ υ = τ) := by
  unfold f_X11_doesFit
  refine Ev.call (e_isAtRim hz hp ht hq) (fun x υ hx => ?_)
  obtain ⟨rfl, rfl⟩ := hx
  unfold fit
  cases hr : atRim (υ (k + 2)) (υ (k + 3)) r c p t q with
  | false =>
    refine Ev.ite (fun _ => Ev.ret ⟨rfl, rfl⟩) (fun e => absurd rfl e)
  | true =>
    refine Ev.ite (fun e => absurd e (by decide)) (fun _ => ?_)
    rw [Bool.true_and]
    exact e_doesFit_b15 hz hb hp ht hq fu 0 (by decide) (by decide)
/-- the kind of a try -/
def kindV (ri dn pc tn : Nat → Int32) (r c p t q : Nat) : Int32 := if fit ri dn pc tn r c p t q = true then (if p = q ∧ t = 0 then 1 else 2) else (if atRim ri dn r c p t q = true then 4 else 3)
theorem e_kindAt {τ : Sg} {k r c p t q : Nat} (hz : Sz τ k r c) (hb : Bd τ k r c) (hp : p < r * c) (ht : t < 4) (hq : q < r * c) : Ev (f_X11_kindAt k (nI p) (nI t) (nI q) τ) (fun x υ => x = kindV (τ (k + 2)) (τ (k + 3)) (τ (k + 5)) (τ (k + 6)) r c p t q ∧ υ = τ) := by
  have hrc := hz.rc
  unfold f_X11_kindAt
  refine Ev.call (e_doesFit hz hb hp ht hq) (fun x υ hx => ?_)
  obtain ⟨rfl, rfl⟩ := hx
  unfold kindV
  cases hf : fit (υ (k + 2)) (υ (k + 3)) (υ (k + 5)) (υ (k + 6)) r c p t q with
  | false =>
    refine Ev.ite (fun _ => ?_) (fun e => absurd rfl e)
    refine Ev.call (e_isAtRim hz hp ht hq) (fun x υ' hx => ?_)
    obtain ⟨rfl, rfl⟩ := hx
    cases hr : atRim (υ' (k + 2)) (υ' (k + 3)) r c p t q with
    | false => exact Ev.ite (fun _ => Ev.ret ⟨rfl, rfl⟩) (fun e => absurd rfl e)
    | true => exact Ev.ite (fun e => absurd e (by decide)) (fun _ => Ev.ret ⟨rfl, rfl⟩)
  | true =>
    have e1 : nI p = nI q ↔ p = q := nI_eq (by omega) (by omega)
    have e2 : nI t = 0 ↔ t = 0 := nI_s4 t ht 0 (by decide)
    refine Ev.ite (fun e => absurd e (by decide)) (fun _ => Ev.ite (fun h1 => Ev.ite (fun h2 => Ev.ret ⟨?_, rfl⟩) (fun h2 => Ev.ret ⟨?_, rfl⟩)) (fun h1 => Ev.ret ⟨?_, rfl⟩))
    · rw [if_pos rfl, if_pos ⟨e1.mp h1, e2.mp h2⟩]
    · rw [if_pos rfl, if_neg (fun u => h2 (e2.mpr u.2))]
    · rw [if_pos rfl, if_neg (fun u => h1 (e1.mpr u.1))]
