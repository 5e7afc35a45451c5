/-! the class's suitsNeighbours, isFit and kindOf: the same closed forms as the reference's -/
/-- what lies on the class's board at k: nothing (-1), or a piece that is there in a turn -/
def BdX (σ : Sg) (k r c : Nat) : Prop := ∀ q, q < r * c → σ (k + 1) q = -1 ∨ ((∃ p, p < r * c ∧ σ (k + 1) q = nI p) ∧ ∃ t, t < 4 ∧ σ (k + 2) q = nI t)
theorem nI_nm1 {p : Nat} (h : p < 2 ^ 31) : ¬ nI p = -1 := fun e => by
  have := nI_pos' h
  rw [e] at this
  exact absurd this (by decide)
theorem c_isFilled {σ : Sg} {k q : Nat} (hq : q < 16) : Ev (f_X0_isFilled k (nI q) σ) (fun x υ => x = (if σ (k + 1) q = -1 then 0 else 1) ∧ υ = σ) := by
  unfold f_X0_isFilled
  refine Ev.rd (ix_nI hq (by decide)) ?_
  rw [nI_clamp (by omega)]
  refine Ev.ite (fun e => Ev.ret ⟨?_, rfl⟩) (fun e => Ev.ret ⟨?_, rfl⟩)
  · rw [if_pos e]
  · rw [if_neg e]
theorem c_suitsN_b3 {σ : Sg} {k k1 r c p t q : Nat} {ri dn : Nat → Int32} (hz : CutOk σ k r c ri dn) (hb : BdX σ k1 r c) (hp : p < r * c) (ht : t < 4) (hq : q < r * c) : ∀ (n s : Nat), s ≤ 4 → 4 - s < n → Ev (f_X1_suitsNeighbours_b3 k k1 n (nI p) (nI t) (nI q) (nI s) σ) (fun x υ => x = (if (List.range' s (4 - s)).all (nbOk ri dn (σ (k1 + 1)) (σ (k1 + 2)) r c p t q) = true then 1 else 0) ∧ υ = σ)
  | 0, s, _, h => absurd h (Nat.not_lt_zero _)
  | n + 1, s, hs, h => by
    have hrc := hz.rc
    have z3 := hz.2.2.2.1
    have z4 := hz.2.2.2.2.1
    rw [f_X1_suitsNeighbours_b3]
    refine Ev.ite (fun h4 => Ev.ret ⟨?_, rfl⟩) (fun h4 => ?_)
    · rw [(le4 hs).mp h4]; rfl
    · have h5 : s < 4 := by
        rcases Nat.lt_or_ge s 4 with u | u
        · exact u
        · exact absurd ((le4 hs).mpr (by omega)) h4
      refine Ev.call (c_beside hz hq h5) (fun x υ hx => ?_)
      obtain ⟨rfl, rfl⟩ := hx
      rw [rg_cons h5, List.all_cons]
      have ih := c_suitsN_b3 hz hb hp ht hq n (s + 1) (by omega) (by omega)
      have go : nbOk ri dn (υ (k1 + 1)) (υ (k1 + 2)) r c p t q s = true → Ev (f_X1_suitsNeighbours_b90 k k1 (f_X1_suitsNeighbours_b3 k k1 n) (nI p) (nI t) (nI q) (nI s) υ) (fun x υ' => x = (if (nbOk ri dn (υ (k1 + 1)) (υ (k1 + 2)) r c p t q s && (List.range' (s + 1) (4 - (s + 1))).all (nbOk ri dn (υ (k1 + 1)) (υ (k1 + 2)) r c p t q)) = true then 1 else 0) ∧ υ' = υ) := by
        intro e
        unfold f_X1_suitsNeighbours_b90
        rw [e, Bool.true_and, nI_1]
        exact ih
      cases hn : bs r c q s with
      | none =>
        refine Ev.ite (fun _ => go ?_) (fun e => absurd rfl e)
        unfold nbOk; rw [hn]
      | some o =>
        have ho := bs_lt z3 z4 hq h5 hn
        have io : ix (nI o) 16 = true := ix_nI (by omega) (by decide)
        have co : (nI o).toNatClampNeg = o := nI_clamp (by omega)
        have cob : (bsI (some o)).toNatClampNeg = o := co
        refine Ev.ite (fun e => absurd e (nI_nm1 (by omega))) (fun _ => ?_)
        refine Ev.call (c_isFilled (q := o) (by omega)) (fun x υ' hx => ?_)
        obtain ⟨rfl, rfl⟩ := hx
        rcases hb o ho with h9 | ⟨⟨p2, hp2, e3⟩, t2, ht2, e4⟩
        · rw [if_pos h9]
          refine Ev.ite (fun _ => go ?_) (fun e => absurd rfl e)
          unfold nbOk; rw [hn]; simp only [h9]
          rfl
        · have hne : ¬ υ' (k1 + 1) o = -1 := by rw [e3]; exact nI_nm1 (by omega)
          have hpos : ¬ υ' (k1 + 1) o < 0 := by rw [e3]; exact nI_pos (by omega)
          rw [if_neg hne]
          refine Ev.ite (fun e => absurd e (by decide)) (fun _ => ?_)
          refine Ev.rd io ?_
          rw [cob]
          refine Ev.ite (fun e2 => go ?_) (fun e2 => ?_)
          · unfold nbOk; rw [hn]; simp [e2]
          · refine Ev.rd io ?_
            refine Ev.rd io ?_
            rw [cob, e3, e4, opp_tab s h5]
            refine Ev.call (c_sideOf hz hp2 (Nat.mod_lt _ (by decide)) ht2) (fun y υ'' hy => ?_)
            obtain ⟨rfl, rfl⟩ := hy
            refine Ev.call (c_sideOf hz hp h5 ht) (fun x υ3 hx => ?_)
            obtain ⟨rfl, rfl⟩ := hx
            have cp : (nI p2).toNatClampNeg = p2 := nI_clamp (by omega)
            have ct : (nI t2).toNatClampNeg = t2 := nI_clamp (by omega)
            have hval : nbOk ri dn (υ3 (k1 + 1)) (υ3 (k1 + 2)) r c p t q s = decide (sdv ri dn r c p ((s + 4 - t) % 4) + sdv ri dn r c p2 (((s + 2) % 4 + 4 - t2) % 4) = 0) := by
              unfold nbOk
              rw [hn]
              show (decide (υ3 (k1 + 1) o < 0) || decide (υ3 (k1 + 1) o = nI p) || _) = _
              rw [decide_eq_false hpos, decide_eq_false e2, e3, e4, cp, ct]
              rfl
            refine Ev.ite (fun e5 => go ?_) (fun e5 => Ev.ret ⟨?_, rfl⟩)
            · rw [hval]; exact decide_eq_true e5
            · rw [hval, decide_eq_false e5, Bool.false_and]; rfl
theorem c_isFit {σ : Sg} {k k1 r c p t q : Nat} {ri dn : Nat → Int32} (hz : CutOk σ k r c ri dn) (hb : BdX σ k1 r c) (hp : p < r * c) (ht : t < 4) (hq : q < r * c) : Ev (f_X1_isFit k k1 (nI p) (nI t) (nI q) σ) (fun x υ => x = (if fit ri dn (σ (k1 + 1)) (σ (k1 + 2)) r c p t q = true then 1 else 0) ∧ υ = σ) := by
  unfold f_X1_isFit
  refine Ev.call (c_suitsRim hz hp ht hq) (fun x υ hx => ?_)
  obtain ⟨rfl, rfl⟩ := hx
  unfold fit
  cases hr : atRim ri dn r c p t q with
  | false => exact Ev.ite (fun _ => Ev.ret ⟨rfl, rfl⟩) (fun e => absurd rfl e)
  | true =>
    refine Ev.ite (fun e => absurd e (by decide)) (fun _ => ?_)
    rw [Bool.true_and]
    refine Ev.call (c_suitsN_b3 hz hb hp ht hq fu 0 (by decide) (by decide)) (fun x υ' hx => ?_)
    obtain ⟨rfl, rfl⟩ := hx
    cases hn : (List.range' 0 (4 - 0)).all (nbOk ri dn (υ' (k1 + 1)) (υ' (k1 + 2)) r c p t q) with
    | false => exact Ev.ite (fun _ => Ev.ret ⟨rfl, rfl⟩) (fun e => absurd rfl e)
    | true => exact Ev.ite (fun e => absurd e (by decide)) (fun _ => Ev.ret ⟨rfl, rfl⟩)
theorem c_kindOf {σ : Sg} {k k1 r c p t q : Nat} {ri dn : Nat → Int32} (hz : CutOk σ k r c ri dn) (hb : BdX σ k1 r c) (hp : p < r * c) (ht : t < 4) (hq : q < r * c) : Ev (f_X1_kindOf k k1 (nI p) (nI t) (nI q) σ) (fun x υ => x = kindV ri dn (σ (k1 + 1)) (σ (k1 + 2)) r c p t q ∧ υ = σ) := by
  have hrc := hz.rc
  unfold f_X1_kindOf
  refine Ev.call (c_suitsRim hz hp ht hq) (fun x υ hx => ?_)
  obtain ⟨rfl, rfl⟩ := hx
  unfold kindV fit
  cases hr : atRim ri dn r c p t q with
  | false => exact Ev.ite (fun _ => Ev.ret ⟨rfl, rfl⟩) (fun e => absurd rfl e)
  | true =>
    refine Ev.ite (fun e => absurd e (by decide)) (fun _ => ?_)
    rw [Bool.true_and]
    refine Ev.call (c_suitsN_b3 hz hb hp ht hq fu 0 (by decide) (by decide)) (fun x υ' hx => ?_)
    obtain ⟨rfl, rfl⟩ := hx
    cases hn : (List.range' 0 (4 - 0)).all (nbOk ri dn (υ' (k1 + 1)) (υ' (k1 + 2)) r c p t q) with
    | false =>
      exact Ev.ite (fun _ => Ev.ret ⟨rfl, rfl⟩) (fun e => absurd rfl e)
    | true =>
      have e1 : nI p = nI q ↔ p = q := nI_eq (by omega) (by omega)
      have e2 : nI t = 0 ↔ t = 0 := nI_s4 t ht 0 (by decide)
      refine Ev.ite (fun e => absurd e (by decide)) (fun _ => Ev.ite (fun h1 => Ev.ite (fun h2 => Ev.ret ⟨?_, rfl⟩) (fun h2 => Ev.ret ⟨?_, rfl⟩)) (fun h1 => Ev.ret ⟨?_, rfl⟩))
      · rw [if_pos rfl, if_pos ⟨e1.mp h1, e2.mp h2⟩]
      · rw [if_pos rfl, if_neg (fun u => h2 (e2.mpr u.2))]
      · rw [if_pos rfl, if_neg (fun u => h1 (e1.mpr u.1))]
