/-! the class's costOf: the same seconds -/
theorem c_byColour {σ : Sg} {k p q : Nat} {v : Int32} (hp : p < 16) (hq : q < 16) : Ev (f_X3_costByColour k v (nI p) (nI q) σ) (fun y υ => y = (if σ (k + 1 + 4) p = σ (k + 1 + 4) q then (v + 1) / 2 else v) ∧ υ = σ) := by
  unfold f_X3_costByColour
  refine Ev.rd (ix_nI hp (by decide)) (Ev.rd (ix_nI hq (by decide)) ?_)
  rw [nI_clamp (by omega), nI_clamp (by omega)]
  refine Ev.ite (fun e => Ev.ret ⟨?_, rfl⟩) (fun e => Ev.ret ⟨?_, rfl⟩)
  · rw [if_pos e]
  · rw [if_neg e]
theorem c_plainCost {σ : Sg} {k r c p q w : Nat} {ri dn : Nat → Int32} (hz : CutOk σ (k + 1) r c ri dn) (hk : ∃ d, d < 5 ∧ σ (k + 12 + 1) w = nI d) (hw : w < 6) (hp : p < r * c) (hq : q < r * c) : Ev (f_X3_plainCost k (nI w) (nI p) (nI q) σ) (fun y υ => y = plainV (σ (k + 12 + 1) w) (σ (k + 12 + 2) w) (σ (k + 1 + 4) p) (σ (k + 1 + 4) q) (rim r c q) ∧ υ = σ) := by
  have hrc := hz.rc
  have iw : ix (nI w) 6 = true := ix_nI hw (by decide)
  have ip : ix (nI p) 16 = true := ix_nI (by omega) (by decide)
  have iq : ix (nI q) 16 = true := ix_nI (by omega) (by decide)
  have cw : (nI w).toNatClampNeg = w := nI_clamp (by omega)
  have cp : (nI p).toNatClampNeg = p := nI_clamp (by omega)
  have cq : (nI q).toNatClampNeg = q := nI_clamp (by omega)
  unfold f_X3_plainCost
  refine Ev.rd iw (Ev.rd iw ?_)
  rw [cw]
  obtain ⟨d, hd, ek⟩ := hk
  have n0 : ∀ {e : Int32}, σ (k + 12 + 1) w = e → ¬ e = 0 → ¬ σ (k + 12 + 1) w = 0 := fun h1 h2 h3 => h2 (h1.symm.trans h3)
  refine Ev.ite (fun h1 => ?_) (fun h1 => Ev.ite (fun h2 => Ev.rd iq ?_) (fun h2 => Ev.ite (fun h3 => Ev.rd ip ?_) (fun h3 => Ev.ite (fun h4 => Ev.ret ⟨?_, rfl⟩) (fun h4 => Ev.ret ⟨?_, rfl⟩))))
  · refine Ev.call (c_byColour (by omega) (by omega)) (fun y υ hy => ?_)
    obtain ⟨rfl, rfl⟩ := hy
    refine Ev.ret ⟨?_, rfl⟩
    unfold plainV; rw [if_neg (n0 h1 (by decide)), if_pos h1]
  · rw [cq, hz.2.2.2.2.2.2 q hq]
    unfold plainV
    cases hr : rim r c q with
    | false =>
      refine Ev.ite (fun _ => Ev.ret ⟨?_, rfl⟩) (fun e => absurd rfl e)
      rw [if_neg (n0 h2 (by decide)), if_neg h1, if_pos h2]; rfl
    | true =>
      refine Ev.ite (fun e => absurd e (by decide)) (fun _ => Ev.ret ⟨?_, rfl⟩)
      rw [if_neg (n0 h2 (by decide)), if_neg h1, if_pos h2]; rfl
  · rw [cp]
    refine Ev.ite (fun e => Ev.ret ⟨?_, rfl⟩) (fun e => ?_)
    · unfold plainV; rw [if_neg (n0 h3 (by decide)), if_neg h1, if_neg h2, if_pos h3, if_pos e]
    · refine Ev.call (c_byColour (by omega) (by omega)) (fun y υ hy => ?_)
      obtain ⟨rfl, rfl⟩ := hy
      refine Ev.ret ⟨?_, rfl⟩
      unfold plainV; rw [if_neg (n0 h3 (by decide)), if_neg h1, if_neg h2, if_pos h3, if_neg e]
  · unfold plainV; rw [if_neg (n0 h4 (by decide)), if_neg h1, if_neg h2, if_neg h3]
  · have h0 : σ (k + 12 + 1) w = 0 := by
      rw [ek] at h1 h2 h3 h4 ⊢
      have key : ∀ d, d < 5 → ¬ nI d = 1 → ¬ nI d = 2 → ¬ nI d = 3 → ¬ nI d = 4 → nI d = 0 := by decide +kernel
      exact key d hd h1 h2 h3 h4
    unfold plainV; rw [if_pos h0]
theorem c_costOf {σ : Sg} {k r c p q w : Nat} {ri dn : Nat → Int32} {kd : Int32} (hz : CutOk σ (k + 1) r c ri dn) (hk : ∃ d, d < 5 ∧ σ (k + 12 + 1) w = nI d) (hw : w < 6) (hp : p < r * c) (hq : q < r * c) : Ev (f_X3_costOf k (nI w) (nI p) (nI q) kd σ) (fun y υ => y = (if kd = 2 then 2 * plainV (σ (k + 12 + 1) w) (σ (k + 12 + 2) w) (σ (k + 1 + 4) p) (σ (k + 1 + 4) q) (rim r c q) else plainV (σ (k + 12 + 1) w) (σ (k + 12 + 2) w) (σ (k + 1 + 4) p) (σ (k + 1 + 4) q) (rim r c q)) ∧ υ = σ) := by
  unfold f_X3_costOf
  refine Ev.call (c_plainCost hz hk hw hp hq) (fun y υ hy => ?_)
  obtain ⟨rfl, rfl⟩ := hy
  refine Ev.ite (fun e => Ev.ret ⟨?_, rfl⟩) (fun e => Ev.ret ⟨?_, rfl⟩)
  · rw [if_pos e]
  · rw [if_neg e]
