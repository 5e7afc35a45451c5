/-! the reference's sides of pieces, turned ones, the rim -/
/-- the reference holds a puzzle of r rows and c columns -/
def Sz (τ : Sg) (k r c : Nat) : Prop := τ k 11 = nI r ∧ τ k 12 = nI c ∧ (2 ≤ r ∧ r < 5) ∧ (2 ≤ c ∧ c < 5)
theorem Sz.rc {τ : Sg} {k r c : Nat} (h : Sz τ k r c) : r * c ≤ 16 := by
  obtain ⟨-, -, ⟨a, b⟩, d, e⟩ := h
  have h1 : r ≤ 4 := by omega
  have h2 : c ≤ 4 := by omega
  exact Nat.mul_le_mul h1 h2
/-- side s of piece p, by the edges to the right (ri) and down (dn) -/
def sdv (ri dn : Nat → Int32) (r c p s : Nat) : Int32 := match bs r c p s with
  | none => 0
  | some q => if s = 1 then ri p else if s = 2 then dn p else if s = 0 then -(dn q) else -(ri q)
theorem bsI_ge {o : Option Nat} (h : ∀ q, o = some q → q < 2 ^ 31) : (0 ≤ bsI o) ↔ o.isSome = true := by
  cases o with
  | none => simp only [bsI, Option.isSome_none]; decide
  | some q => simp only [bsI, Option.isSome_some, iff_true]; exact nI_pos' (h q rfl)
theorem nI_s4 : ∀ s, s < 4 → ∀ t, t < 4 → (nI s = nI t ↔ s = t) := by decide +kernel
theorem e_sideOf {τ : Sg} {k r c p s : Nat} (hz : Sz τ k r c) (hp : p < r * c) (hs : s < 4) : Ev (f_X11_sideOf k (nI p) (nI s) τ) (fun x υ => x = sdv (τ (k + 2)) (τ (k + 3)) r c p s ∧ υ = τ) := by
  have hrc := hz.rc
  obtain ⟨z1, z2, z3, z4⟩ := hz
  have hlt : ∀ q, bs r c p s = some q → q < r * c := fun q h => bs_lt z3 z4 hp hs h
  unfold f_X11_sideOf
  refine Ev.call (e_beside z1 z2 z3 z4 hp hs) (fun x υ hx => ?_)
  obtain ⟨rfl, rfl⟩ := hx
  have e1 : (nI s = 1) ↔ s = 1 := nI_s4 s hs 1 (by decide)
  have e2 : (nI s = 2) ↔ s = 2 := nI_s4 s hs 2 (by decide)
  have e0 : (nI s = 0) ↔ s = 0 := nI_s4 s hs 0 (by decide)
  have hge := bsI_ge (o := bs r c p s) (fun q h => by have := hlt q h; omega)
  cases hb : bs r c p s with
  | none =>
    refine Ev.ite (fun h => ?_) (fun _ => Ev.ret ⟨?_, rfl⟩)
    · rw [hb] at hge; exact absurd (hge.mp h) (by simp)
    · unfold sdv; rw [hb]
  | some q =>
    have hq := hlt q hb
    have ip : ix (nI p) 16 = true := ix_nI (by omega) (by decide)
    have iq : ix (nI q) 16 = true := ix_nI (by omega) (by decide)
    have cp : (nI p).toNatClampNeg = p := nI_clamp (by omega)
    have cq : (nI q).toNatClampNeg = q := nI_clamp (by omega)
    have hv : ∀ v, v = (if s = 1 then υ (k + 2) p else if s = 2 then υ (k + 3) p else if s = 0 then -(υ (k + 3) q) else -(υ (k + 2) q)) → v = sdv (υ (k + 2)) (υ (k + 3)) r c p s := fun v h => by unfold sdv; rw [hb]; exact h
    refine Ev.ite (fun _ => ?_) (fun h => absurd (show 0 ≤ bsI (some q) from nI_pos' (by omega)) h)
    refine Ev.ite (fun h => Ev.rd ip (Ev.ret ⟨hv _ ?_, rfl⟩)) (fun h => Ev.ite (fun h2 => Ev.rd ip (Ev.ret ⟨hv _ ?_, rfl⟩)) (fun h2 => Ev.ite (fun h3 => Ev.rd iq (Ev.ret ⟨hv _ ?_, rfl⟩)) (fun h3 => Ev.rd iq (Ev.ret ⟨hv _ ?_, rfl⟩))))
    · rw [if_pos (e1.mp h), cp]
    · rw [if_neg (fun e => h (e1.mpr e)), if_pos (e2.mp h2), cp]
    · rw [if_neg (fun e => h (e1.mpr e)), if_neg (fun e => h2 (e2.mpr e)), if_pos (e0.mp h3)]
      show -(υ (k + 3) (nI q).toNatClampNeg) = _
      rw [cq]
    · rw [if_neg (fun e => h (e1.mpr e)), if_neg (fun e => h2 (e2.mpr e)), if_neg (fun e => h3 (e0.mpr e))]
      show -(υ (k + 2) (nI q).toNatClampNeg) = _
      rw [cq]
theorem trn_tab : ∀ s, s < 4 → ∀ t, t < 4 → ((nI s + 4) - nI t) - ((nI s + 4) - nI t) / 4 * 4 = nI ((s + 4 - t) % 4) := by decide +kernel
theorem e_turned {τ : Sg} {k r c p s t : Nat} (hz : Sz τ k r c) (hp : p < r * c) (hs : s < 4) (ht : t < 4) : Ev (f_X11_turned k (nI p) (nI t) (nI s) τ) (fun x υ => x = sdv (τ (k + 2)) (τ (k + 3)) r c p ((s + 4 - t) % 4) ∧ υ = τ) := by
  unfold f_X11_turned
  rw [trn_tab s hs t ht]
  exact Ev.call (e_sideOf hz hp (Nat.mod_lt _ (by decide))) (fun x υ hx => Ev.ret hx)
/-- a cell of the rim -/
def rim (r c p : Nat) : Bool := (List.range 4).any (fun s => (bs r c p s).isNone)
theorem e_isRim_b2 {τ : Sg} {k r c p : Nat} (hz : Sz τ k r c) (hp : p < r * c) : ∀ (n s : Nat), s ≤ 4 → 4 - s < n → Ev (f_X11_isRim_b2 k n (nI p) (nI s) τ) (fun x υ => x = (if ((List.range' s (4 - s)).any (fun s => (bs r c p s).isNone)) = true then 1 else 0) ∧ υ = τ)
  | 0, s, _, h => absurd h (Nat.not_lt_zero _)
  | n + 1, s, hs, h => by
    have hrc := hz.rc
    obtain ⟨z1, z2, z3, z4⟩ := id hz
    rw [f_X11_isRim_b2]
    refine Ev.ite (fun h4 => Ev.ret ⟨?_, rfl⟩) (fun h4 => ?_)
    · have : s = 4 := by
        have h5 : nI 4 ≤ nI s := h4
        have := (nI_leI (a := 4) (b := s) (by decide) (by omega)).mp h5
        omega
      subst this
      rfl
    · have h5 : s < 4 := by
        rcases Nat.lt_or_ge s 4 with q | q
        · exact q
        · exact absurd (show (4 : Int32) ≤ nI s from (nI_leI (a := 4) (b := s) (by decide) (by omega)).mpr q) h4
      refine Ev.call (e_beside z1 z2 z3 z4 hp h5) (fun x υ hx => ?_)
      obtain ⟨rfl, rfl⟩ := hx
      have hge := bsI_ge (o := bs r c p s) (fun q h => by have := bs_lt z3 z4 hp h5 h; omega)
      have hrg : List.range' s (4 - s) = s :: List.range' (s + 1) (4 - (s + 1)) := by
        rw [show 4 - s = (4 - (s + 1)) + 1 by omega]
        rfl
      rw [hrg, List.any_cons]
      refine Ev.ite (fun h6 => ?_) (fun h6 => Ev.ret ⟨?_, rfl⟩)
      · have h7 := hge.mp h6
        rw [show (bs r c p s).isNone = false from by cases hb : bs r c p s with
          | none => rw [hb] at h7; cases h7
          | some q => rfl, Bool.false_or, nI_1]
        exact e_isRim_b2 hz hp n (s + 1) (by omega) (by omega)
      · have h7 : (bs r c p s).isNone = true := by
          cases hb : bs r c p s with
          | none => rfl
          | some q => rw [hb] at hge h6; exact absurd (hge.mpr rfl) h6
        rw [h7, Bool.true_or]
        rfl
theorem e_isRim {τ : Sg} {k r c p : Nat} (hz : Sz τ k r c) (hp : p < r * c) : Ev (f_X11_isRim k (nI p) τ) (fun x υ => x = (if rim r c p = true then 1 else 0) ∧ υ = τ) := e_isRim_b2 hz hp fu 0 (by decide) (by decide)
