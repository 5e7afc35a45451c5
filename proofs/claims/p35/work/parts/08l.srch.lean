/-! going through the ways: what both sides come to -/
abbrev SS : Type := Nat × Nat × (Nat → Int32) × (Nat → Int32)
/-- m candidates from n on, at one cell: tried, and where they fit gone on with -/
def sr_c (go : Nat → Nat → SS → SS) (fr : Nat → Bool) (ft : Nat → Nat → Bool) : Nat → Nat → SS → SS
  | 0, _, s => s
  | m + 1, n, s => sr_c go fr ft m (n + 1) (if 20000 < s.1 then s else if fr (n / 4) = true then (if s.1 + 1 ≤ 20000 ∧ ft (n / 4) (n % 4) = true then go (n / 4) (n % 4) (s.1 + 1, s.2) else (s.1 + 1, s.2)) else s)
/-- d cells are still to be laid -/
def sr (ri dn : Nat → Int32) (r c : Nat) : Nat → (Nat → Int32) → (Nat → Int32) → SS → SS
  | 0, pc, tn, s => (s.1, s.2.1 + 1, if s.2.1 = 0 then (pc, tn) else s.2.2)
  | d + 1, pc, tn, s => sr_c (fun p t s' => sr ri dn r c d (ut pc (r * c - (d + 1)) (nI p)) (ut tn (r * c - (d + 1)) (nI t)) s') (fun p => !(laidB pc (r * c) (nI p))) (fun p t => fit ri dn pc tn r c p t (r * c - (d + 1))) (4 * (r * c)) 0 s
theorem sr_stop {go : Nat → Nat → SS → SS} {fr : Nat → Bool} {ft : Nat → Nat → Bool} : ∀ (m n : Nat) (s : SS), 20000 < s.1 → sr_c go fr ft m n s = s
  | 0, _, _, _ => rfl
  | m + 1, n, s, h => by rw [sr_c, if_pos h, sr_stop m (n + 1) s h]
/-- numbers stay in bounds -/
def Sle (s s' : SS) : Prop := s.1 ≤ s'.1 ∧ s'.1 ≤ 20001 ∧ s'.2.1 ≤ s'.1
theorem sr_c_le {go : Nat → Nat → SS → SS} {fr : Nat → Bool} {ft : Nat → Nat → Bool} (hg : ∀ p t s, s.2.1 < s.1 → s.1 ≤ 20000 → Sle s (go p t s)) : ∀ (m n : Nat) (s : SS), s.2.1 ≤ s.1 → s.1 ≤ 20001 → Sle s (sr_c go fr ft m n s)
  | 0, _, s, h, h2 => ⟨Nat.le_refl _, h2, h⟩
  | m + 1, n, s, h, h2 => by
    rw [sr_c]
    by_cases a : 20000 < s.1
    · rw [if_pos a]; exact sr_c_le hg m (n + 1) s h h2
    · rw [if_neg a]
      by_cases b : fr (n / 4) = true
      · rw [if_pos b]
        by_cases e : s.1 + 1 ≤ 20000 ∧ ft (n / 4) (n % 4) = true
        · rw [if_pos e]
          have g := hg (n / 4) (n % 4) (s.1 + 1, s.2) (show s.2.1 < s.1 + 1 by omega) (show s.1 + 1 ≤ 20000 from e.1)
          have k := sr_c_le (fr := fr) (ft := ft) hg m (n + 1) (go (n / 4) (n % 4) (s.1 + 1, s.2)) g.2.2 g.2.1
          have g1 : s.1 + 1 ≤ (go (n / 4) (n % 4) (s.1 + 1, s.2)).1 := g.1
          exact ⟨by have := k.1; omega, k.2⟩
        · rw [if_neg e]
          have k := sr_c_le (fr := fr) (ft := ft) hg m (n + 1) (s.1 + 1, s.2) (show s.2.1 ≤ s.1 + 1 by omega) (show s.1 + 1 ≤ 20001 by omega)
          have k1 : s.1 + 1 ≤ (sr_c go fr ft m (n + 1) (s.1 + 1, s.2)).1 := k.1
          exact ⟨by omega, k.2⟩
      · rw [if_neg b]; exact sr_c_le hg m (n + 1) s h h2
theorem sr_le {ri dn : Nat → Int32} {r c : Nat} : ∀ (d : Nat) (pc tn : Nat → Int32) (s : SS), s.2.1 < s.1 → s.1 ≤ 20000 → Sle s (sr ri dn r c d pc tn s)
  | 0, pc, tn, s, h, h2 => ⟨Nat.le_refl _, by show s.1 ≤ 20001; omega, by show s.2.1 + 1 ≤ s.1; omega⟩
  | d + 1, pc, tn, s, h, h2 => by
    rw [sr]
    exact sr_c_le (fun p t s' a b => sr_le d _ _ s' a b) _ _ s (by omega) (by omega)
theorem laidB_iff {pc : Nat → Int32} {m : Nat} {x : Int32} : laidB pc m x = true ↔ ∃ q, q < m ∧ pc q = x := by
  unfold laidB
  rw [List.any_eq_true]
  constructor
  · rintro ⟨q, hq, e⟩
    rw [List.mem_range'_1] at hq
    exact ⟨q, by omega, of_decide_eq_true e⟩
  · rintro ⟨q, hq, e⟩
    exact ⟨q, by rw [List.mem_range'_1]; omega, decide_eq_true e⟩
theorem fit_congr {ri dn pc pc' tn tn' : Nat → Int32} {r c p t q : Nat} (h1 : 2 ≤ r ∧ r < 5) (h2 : 2 ≤ c ∧ c < 5) (hq : q < r * c) (hv : ∀ o, o < r * c → pc' o = pc o ∧ (pc o = -1 ∨ tn' o = tn o)) : fit ri dn pc' tn' r c p t q = fit ri dn pc tn r c p t q := by
  unfold fit
  congr 1
  have key : ∀ s, s < 4 → nbOk ri dn pc' tn' r c p t q s = nbOk ri dn pc tn r c p t q s := by
    intro s hs
    unfold nbOk
    cases hn : bs r c q s with
    | none => rfl
    | some o =>
      obtain ⟨a, b⟩ := hv o (bs_lt h1 h2 hq hs hn)
      show (decide (pc' o < 0) || decide (pc' o = nI p) || _) = (decide (pc o < 0) || decide (pc o = nI p) || _)
      rw [a]
      rcases b with b | b
      · simp only [b, show decide ((-1 : Int32) < 0) = true from by decide, Bool.true_or]
      · rw [b]
  simp only [List.range', List.all_cons, List.all_nil]
  rw [key 0 (by decide), key (0 + 1) (by decide), key (0 + 1 + 1) (by decide), key (0 + 1 + 1 + 1) (by decide)]
/-- q cells are laid, no piece twice -/
def Lay (pc tn : Nat → Int32) (m q : Nat) : Prop := (∀ o, o < q → ∃ p t, p < m ∧ t < 4 ∧ pc o = nI p ∧ tn o = nI t) ∧ (∀ o, q ≤ o → o < 16 → pc o = -1)
theorem Lay.put {pc tn : Nat → Int32} {m q p t : Nat} (h : Lay pc tn m q) (hp : p < m) (ht : t < 4) : Lay (ut pc q (nI p)) (ut tn q (nI t)) m (q + 1) := by
  refine ⟨fun o ho => ?_, fun o h1 h2 => ?_⟩
  · by_cases e : o = q
    · subst e
      exact ⟨p, t, hp, ht, ut_s, ut_s⟩
    · rw [ut_n e, ut_n e]
      exact h.1 o (by omega)
  · rw [ut_n (by omega)]
    exact h.2 o (by omega) h2
theorem laid_put {pc : Nat → Int32} {m q p p' : Nat} (hq : q < m) (hm : m ≤ 16) (hp : p < 16) (hp' : p' < 16) (hf : pc q = -1) : laidB (ut pc q (nI p)) m (nI p') = (decide (p' = p) || laidB pc m (nI p')) := by
  have e1 : laidB (ut pc q (nI p)) m (nI p') = true ↔ (p' = p ∨ laidB pc m (nI p') = true) := by
    rw [laidB_iff, laidB_iff]
    constructor
    · rintro ⟨o, ho, e⟩
      by_cases x : o = q
      · subst x
        rw [ut_s] at e
        exact .inl ((nI_eq (by omega) (by omega)).mp e).symm
      · rw [ut_n x] at e
        exact .inr ⟨o, ho, e⟩
    · rintro (e | ⟨o, ho, e⟩)
      · subst e
        exact ⟨q, hq, ut_s⟩
      · refine ⟨o, ho, ?_⟩
        rw [ut_n (fun x => by rw [x, hf] at e; exact nI_nm1 (by omega) e.symm)]
        exact e
  by_cases a : p' = p
  · rw [e1.mpr (.inl a), decide_eq_true a]; rfl
  · cases hb : laidB pc m (nI p') with
    | true => rw [e1.mpr (.inr hb), Bool.or_true]
    | false =>
      rw [decide_eq_false a, Bool.or_false]
      cases hc : laidB (ut pc q (nI p)) m (nI p') with
      | false => rfl
      | true =>
        rcases e1.mp hc with x | x
        · exact absurd x a
        · rw [hb] at x; cases x
