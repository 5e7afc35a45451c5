/-! the reference's counts over the cells: isLaid, laidMany, lostMany; secondsOf -/
theorem rgm {s m : Nat} (h : s < m) : List.range' s (m - s) = s :: List.range' (s + 1) (m - (s + 1)) := by
  rw [show m - s = (m - (s + 1)) + 1 by omega]
  rfl
theorem Sz.cells {τ : Sg} {k r c : Nat} (h : Sz τ k r c) : τ k 11 * τ k 12 = nI (r * c) := by rw [h.1, h.2.1, pk_mul]
theorem nI_lem {a b : Nat} (ha : a < 2 ^ 31) (hb : b < 2 ^ 31) (h : ¬ nI a ≤ nI b) : b < a := by
  rcases Nat.lt_or_ge b a with u | u
  · exact u
  · exact absurd ((nI_leI ha hb).mpr u) h
theorem e_isLaid_b2 {τ : Sg} {k r c : Nat} {x : Int32} (hz : Sz τ k r c) : ∀ (n s : Nat), s ≤ r * c → r * c - s < n → Ev (f_X11_isLaid_b2 k n x (nI s) τ) (fun y υ => y = (if (List.range' s (r * c - s)).any (fun q => decide (τ (k + 5) q = x)) = true then 1 else 0) ∧ υ = τ)
  | 0, s, _, h => absurd h (Nat.not_lt_zero _)
  | n + 1, s, hs, h => by
    have hrc := hz.rc
    rw [f_X11_isLaid_b2]
    refine Ev.call e_cells (fun y υ hy => ?_)
    obtain ⟨rfl, rfl⟩ := hy
    rw [hz.cells]
    refine Ev.ite (fun h4 => Ev.ret ⟨?_, rfl⟩) (fun h4 => ?_)
    · have := (nI_leI (a := r * c) (b := s) (by omega) (by omega)).mp h4
      rw [show s = r * c by omega, Nat.sub_self]
      rfl
    · have h5 := nI_lem (by omega) (by omega) h4
      refine Ev.rd (ix_nI (by omega) (by decide)) ?_
      rw [nI_clamp (by omega), rgm h5, List.any_cons]
      refine Ev.ite (fun e => Ev.ret ⟨?_, rfl⟩) (fun e => ?_)
      · rw [decide_eq_true e, Bool.true_or]; rfl
      · rw [decide_eq_false e, Bool.false_or, nI_1]
        exact e_isLaid_b2 hz n (s + 1) (by omega) (by omega)
def laidB (pc : Nat → Int32) (m : Nat) (x : Int32) : Bool := (List.range' 0 m).any (fun q => decide (pc q = x))
theorem e_isLaid {τ : Sg} {k r c : Nat} {x : Int32} (hz : Sz τ k r c) : Ev (f_X11_isLaid k x τ) (fun y υ => y = (if laidB (τ (k + 5)) (r * c) x = true then 1 else 0) ∧ υ = τ) := by
  have hrc := hz.rc
  exact e_isLaid_b2 hz fu 0 (Nat.zero_le _) (by unfold fu; omega)
/-- how many of the first m places hold something from 0 on -/
def cntL (pc : Nat → Int32) : Nat → Nat → Nat
  | _, 0 => 0
  | s, m + 1 => (if pc s < 0 then 0 else 1) + cntL pc (s + 1) m
theorem e_laidMany_b4 {τ : Sg} {k r c : Nat} (hz : Sz τ k r c) : ∀ (n s a : Nat), s ≤ r * c → r * c - s < n → Ev (f_X11_laidMany_b4 k n (nI a) (nI s) τ) (fun y υ => y = nI (a + cntL (τ (k + 5)) s (r * c - s)) ∧ υ = τ)
  | 0, s, a, _, h => absurd h (Nat.not_lt_zero _)
  | n + 1, s, a, hs, h => by
    have hrc := hz.rc
    rw [f_X11_laidMany_b4]
    refine Ev.call e_cells (fun y υ hy => ?_)
    obtain ⟨rfl, rfl⟩ := hy
    rw [hz.cells]
    refine Ev.ite (fun h4 => Ev.ret ⟨?_, rfl⟩) (fun h4 => ?_)
    · have := (nI_leI (a := r * c) (b := s) (by omega) (by omega)).mp h4
      rw [show s = r * c by omega, Nat.sub_self]
      rfl
    · have h5 := nI_lem (by omega) (by omega) h4
      refine Ev.rd (ix_nI (by omega) (by decide)) ?_
      rw [nI_clamp (by omega), show r * c - s = (r * c - (s + 1)) + 1 by omega]
      unfold f_X11_laidMany_b27 cntL
      refine Ev.ite (fun e => ?_) (fun e => ?_)
      · rw [if_pos e, show nI a + 0 = nI a from by rw [show (0 : Int32) = nI 0 from rfl, nI_add, Nat.add_zero], nI_1, Nat.zero_add]
        exact e_laidMany_b4 hz n (s + 1) a (by omega) (by omega)
      · rw [if_neg e, nI_1, nI_1, ← Nat.add_assoc]
        exact e_laidMany_b4 hz n (s + 1) (a + 1) (by omega) (by omega)
theorem e_laidMany {τ : Sg} {k r c : Nat} (hz : Sz τ k r c) : Ev (f_X11_laidMany k τ) (fun y υ => y = nI (cntL (τ (k + 5)) 0 (r * c)) ∧ υ = τ) := by
  have hrc := hz.rc
  have h := e_laidMany_b4 hz fu 0 0 (Nat.zero_le _) (by unfold fu; omega)
  rw [Nat.zero_add] at h
  exact h
