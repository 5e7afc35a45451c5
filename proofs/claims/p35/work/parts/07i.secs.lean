/-! the seconds of a try: the reference's secondsOf, the class's costOf -/
def plainV (kd pace cp cq : Int32) (rq : Bool) : Int32 := if kd = 0 then pace else if kd = 1 then (if cp = cq then (pace + 1) / 2 else pace) else if kd = 2 then (if rq = true then (pace + 1) / 2 else 2 * pace) else if kd = 3 then (if cp = 3 then 3 * pace else if cp = cq then (pace + 1) / 2 else pace) else pace + 2
theorem e_sec_b155 {τ : Sg} {k r c p t q : Nat} (hz : Sz τ k r c) (hb : Bd τ k r c) (hp : p < r * c) (ht : t < 4) (hq : q < r * c) (v : Int32) : Ev (f_X11_secondsOf_b155 k (nI p) (nI t) (nI q) v τ) (fun y υ => y = (if kindV (τ (k + 2)) (τ (k + 3)) (τ (k + 5)) (τ (k + 6)) r c p t q = 2 then 2 * v else v) ∧ υ = τ) := by
  unfold f_X11_secondsOf_b155
  refine Ev.call (e_kindAt hz hb hp ht hq) (fun y υ hy => ?_)
  obtain ⟨rfl, rfl⟩ := hy
  refine Ev.ite (fun e => Ev.ret ⟨?_, rfl⟩) (fun e => Ev.ret ⟨?_, rfl⟩)
  · rw [if_pos e]
  · rw [if_neg e]
/-- the seconds of a try by somebody of kind kd and pace pace -/
def secV (kd pace : Int32) (col ri dn pc tn : Nat → Int32) (r c p t q : Nat) : Int32 := if kindV ri dn pc tn r c p t q = 2 then 2 * plainV kd pace (col p) (col q) (rim r c q) else plainV kd pace (col p) (col q) (rim r c q)
theorem e_secondsOf {τ : Sg} {k r c p t q w : Nat} (hz : Sz τ k r c) (hb : Bd τ k r c) (hw : w < 6) (hp : p < r * c) (ht : t < 4) (hq : q < r * c) : Ev (f_X11_secondsOf k (nI w) (nI p) (nI t) (nI q) τ) (fun y υ => y = secV (τ (k + 9) w) (τ (k + 10) w) (τ (k + 4)) (τ (k + 2)) (τ (k + 3)) (τ (k + 5)) (τ (k + 6)) r c p t q ∧ υ = τ) := by
  have hrc := hz.rc
  have iw : ix (nI w) 6 = true := ix_nI hw (by decide)
  have ip : ix (nI p) 16 = true := ix_nI (by omega) (by decide)
  have iq : ix (nI q) 16 = true := ix_nI (by omega) (by decide)
  have cw : (nI w).toNatClampNeg = w := nI_clamp (by omega)
  have cp : (nI p).toNatClampNeg = p := nI_clamp (by omega)
  have cq : (nI q).toNatClampNeg = q := nI_clamp (by omega)
  have fin : ∀ v, v = plainV (τ (k + 9) w) (τ (k + 10) w) (τ (k + 4) p) (τ (k + 4) q) (rim r c q) → Ev (f_X11_secondsOf_b155 k (nI p) (nI t) (nI q) v τ) (fun y υ => y = secV (τ (k + 9) w) (τ (k + 10) w) (τ (k + 4)) (τ (k + 2)) (τ (k + 3)) (τ (k + 5)) (τ (k + 6)) r c p t q ∧ υ = τ) := fun v hv => by
    unfold secV
    rw [← hv]
    exact e_sec_b155 hz hb hp ht hq v
  unfold f_X11_secondsOf f_X11_secondsOf_b73 f_X11_secondsOf_b99 f_X11_secondsOf_b147
  refine Ev.rd iw (Ev.rd iw ?_)
  rw [cw]
  refine Ev.ite (fun h0 => fin _ ?_) (fun h0 => Ev.ite (fun h1 => Ev.rd ip (Ev.rd iq ?_)) (fun h1 => Ev.ite (fun h2 => ?_) (fun h2 => Ev.ite (fun h3 => Ev.rd ip ?_) (fun h3 => fin _ ?_))))
  · unfold plainV; rw [if_pos h0]
  · rw [cp, cq]
    refine Ev.ite (fun e => Ev.call (Ev.ret (Q := fun y υ => y = (τ (k + 10) w + 1) / 2 ∧ υ = τ) ⟨rfl, rfl⟩) (fun y υ hy => ?_)) (fun e => fin _ ?_)
    · obtain ⟨rfl, rfl⟩ := hy
      refine fin _ ?_
      unfold plainV; rw [if_neg h0, if_pos h1, if_pos e]
    · unfold plainV; rw [if_neg h0, if_pos h1, if_neg e]
  · refine Ev.call (e_isRim hz hq) (fun y υ hy => ?_)
    obtain ⟨rfl, rfl⟩ := hy
    cases hr : rim r c q with
    | false =>
      refine Ev.ite (fun _ => fin _ ?_) (fun e => absurd rfl e)
      unfold plainV; rw [if_neg h0, if_neg h1, if_pos h2, hr]; rfl
    | true =>
      refine Ev.ite (fun e => absurd e (by decide)) (fun _ => Ev.call (Ev.ret (Q := fun y υ' => y = (υ (k + 10) w + 1) / 2 ∧ υ' = υ) ⟨rfl, rfl⟩) (fun y υ' hy => ?_))
      obtain ⟨rfl, rfl⟩ := hy
      refine fin _ ?_
      unfold plainV; rw [if_neg h0, if_neg h1, if_pos h2, hr]; rfl
  · rw [cp]
    refine Ev.ite (fun e => fin _ ?_) (fun e => Ev.rd ip (Ev.rd iq ?_))
    · unfold plainV; rw [if_neg h0, if_neg h1, if_neg h2, if_pos h3, if_pos e]
    · rw [cp, cq]
      refine Ev.ite (fun e2 => Ev.call (Ev.ret (Q := fun y υ => y = (τ (k + 10) w + 1) / 2 ∧ υ = τ) ⟨rfl, rfl⟩) (fun y υ hy => ?_)) (fun e2 => fin _ ?_)
      · obtain ⟨rfl, rfl⟩ := hy
        refine fin _ ?_
        unfold plainV; rw [if_neg h0, if_neg h1, if_neg h2, if_pos h3, if_neg e, if_pos e2]
      · unfold plainV; rw [if_neg h0, if_neg h1, if_neg h2, if_pos h3, if_neg e, if_neg e2]
  · unfold plainV; rw [if_neg h0, if_neg h1, if_neg h2, if_neg h3]
