/-! the class goes through the ways -/
/-- the class's board in mind (k: Search) is pc, tn -/
def MB (σ : Sg) (k m : Nat) (pc tn : Nat → Int32) : Prop := (∀ o, o < 16 → σ (k + 2) o = pc o ∧ (pc o = -1 ∨ σ (k + 3) o = tn o)) ∧ ∀ p, p < 16 → σ (k + 5) p = b2 (laidB pc m (nI p)) ∧ σ (k + 6) p = 0
/-- what is counted and found so far -/
def CS (σ : Sg) (k m : Nat) (s : SS) : Prop := σ k 4 = nI s.1 ∧ σ k 3 = nI s.2.1 ∧ (0 < s.2.1 → ∀ q, q < m → σ (k + 8) q = s.2.2.1 q ∧ σ (k + 9) q = s.2.2.2 q)
def FS (σ υ : Sg) (k : Nat) : Prop := (∀ a, a < k ∨ k + 12 < a → υ a = σ a) ∧ ∀ b, b ≠ 3 → b ≠ 4 → υ k b = σ k b
theorem FS.trans {σ υ φ : Sg} {k : Nat} (h : FS σ υ k) (g : FS υ φ k) : FS σ φ k := ⟨fun a x => (g.1 a x).trans (h.1 a x), fun b x y => (g.2 b x y).trans (h.2 b x y)⟩
theorem FS.refl {σ : Sg} {k : Nat} : FS σ σ k := ⟨fun _ _ => rfl, fun _ _ _ => rfl⟩
theorem FS.up {σ υ : Sg} {k a i : Nat} {v : Int32} (h : FS σ υ k) (ha : k < a ∧ a ≤ k + 12) : FS σ (sg_up υ a i v) k := ⟨fun x hx => by rw [up_a (by omega)]; exact h.1 x hx, fun b x y => by rw [up_n2 (by omega)]; exact h.2 b x y⟩
theorem FS.cnt {σ υ : Sg} {k i : Nat} {v : Int32} (h : FS σ υ k) (hi : i = 3 ∨ i = 4) : FS σ (sg_up υ k i v) k := ⟨fun x hx => by rw [up_a (by omega)]; exact h.1 x hx, fun b x y => by rw [up_n2 (by omega)]; exact h.2 b x y⟩
theorem FS.fr {σ υ : Sg} {k : Nat} (h : Fr (k + 1) (k + 12) σ υ) : FS σ υ k := ⟨fun a x => h a (by omega), fun b _ _ => by rw [h k (by omega)]⟩
section SX1
variable {k k1 r c : Nat} {ri dn : Nat → Int32}
theorem MB.bd {σ : Sg} {m q : Nat} {pc tn : Nat → Int32} (h : MB σ k m pc tn) (hl : Lay pc tn m q) (hm : m ≤ 16) (hr : m = r * c) : BdX σ (k + 1) r c := fun o ho => by
  obtain ⟨a, b⟩ := h.1 o (by omega)
  show σ (k + 1 + 1) o = -1 ∨ ((∃ p, p < r * c ∧ σ (k + 1 + 1) o = nI p) ∧ ∃ t, t < 4 ∧ σ (k + 1 + 2) o = nI t)
  rcases Nat.lt_or_ge o q with u | u
  · obtain ⟨p, t, hp, ht, e1, e2⟩ := hl.1 o u
    have n1 : ¬ pc o = -1 := by rw [e1]; exact nI_nm1 (by omega)
    exact .inr ⟨⟨p, by omega, a.trans e1⟩, t, ht, (b.resolve_left n1).trans e2⟩
  · exact .inl (a.trans (hl.2 o u (by omega)))
theorem MB.fit {σ : Sg} {q p t : Nat} {pc tn : Nat → Int32} (h1 : 2 ≤ r ∧ r < 5) (h2 : 2 ≤ c ∧ c < 5) (h : MB σ k (r * c) pc tn) (hl : Lay pc tn (r * c) q) (hq : q < r * c) (hp : p < r * c) (hf : laidB pc (r * c) (nI p) = false) : fitX ri dn (σ (k + 1 + 1)) (σ (k + 1 + 2)) r c p t q = fit ri dn pc tn r c p t q := by
  have hrc := rc16 h1 h2
  rw [← fit_congr (pc' := σ (k + 1 + 1)) (tn' := σ (k + 1 + 2)) h1 h2 hq (fun o ho => h.1 o (by omega))]
  refine fitX_eq h1 h2 hq (fun o ho => ⟨?_, .inr rfl⟩)
  have e : σ (k + 1 + 1) o = pc o := (h.1 o (by omega)).1
  rw [e]
  have n2 : ¬ pc o = nI p := fun x => by
    have : laidB pc (r * c) (nI p) = true := laidB_iff.mpr ⟨o, ho, x⟩
    rw [hf] at this; cases this
  rcases Nat.lt_or_ge o q with u | u
  · obtain ⟨p', t', hp', ht', e1, e2⟩ := hl.1 o u
    rw [e1]
    exact ⟨fun x => absurd x (nI_nm1 (by omega)), fun x => x.elim (fun y => absurd y (nI_pos (by omega))) (fun y => absurd (e1.trans y) n2)⟩
  · rw [hl.2 o u (by omega)]
    exact ⟨fun _ => .inl (by decide), fun _ => rfl⟩
/-- what the recursion owes for d cells -/
def RecOk (k k1 r c : Nat) (ri dn : Nat → Int32) (d : Nat) (F : Nat → Nat → Int32 → Sg → Rs) : Prop := ∀ (σ : Sg) (pc tn : Nat → Int32) (s : SS), CutOk σ k1 r c ri dn → MB σ k (r * c) pc tn → Lay pc tn (r * c) (r * c - d) → CS σ k (r * c) s → s.2.1 < s.1 → s.1 ≤ 20000 → Ev (F k k1 (nI (r * c - d)) σ) (fun _ υ => FS σ υ k ∧ MB υ k (r * c) pc tn ∧ CS υ k (r * c) (sr ri dn r c d pc tn s))
theorem x_layTurned {F : Nat → Nat → Int32 → Sg → Rs} {d p q : Nat} {σ : Sg} {pc tn : Nat → Int32} {FIN : SS} {go : Nat → Nat → SS → SS} {ft : Nat → Nat → Bool} (hk : k1 + 4 < k) (hF : RecOk k k1 r c ri dn d F) (hd : q + 1 = r * c - d) (hgo : go = fun p t s' => sr ri dn r c d (ut pc q (nI p)) (ut tn q (nI t)) s') (hft : ft = fun p t => fit ri dn pc tn r c p t q) (hz : CutOk σ k1 r c ri dn) (hM : MB σ k (r * c) pc tn) (hl : Lay pc tn (r * c) q) (hp : p < r * c) (hq : q < r * c) (hfree : laidB pc (r * c) (nI p) = false) (hdr : d ≤ r * c) {s : SS} (hC : CS σ k (r * c) s) (hs1 : s.2.1 ≤ s.1) (hs2 : s.1 ≤ 20001) (hS : sr_c go (fun p => !(laidB pc (r * c) (nI p))) ft (4 * (r * c - p)) (4 * p) s = FIN) : Ev (f_X6_layTurned F k k1 (nI q) (nI p) σ) (fun _ υ => FS σ υ k ∧ MB υ k (r * c) pc tn ∧ ∃ s', CS υ k (r * c) s' ∧ s'.2.1 ≤ s'.1 ∧ s'.1 ≤ 20001 ∧ sr_c go (fun p => !(laidB pc (r * c) (nI p))) ft (4 * (r * c - (p + 1))) (4 * (p + 1)) s' = FIN) := by
  have hrc := hz.rc
  have h1 := hz.r
  have h2 := hz.c
  have hpq : pc q = -1 := hl.2 q (Nat.le_refl _) (by omega)
  refine lp_ev (L := fun n t υ => f_X6_layTurned_b3 F k k1 n (nI q) (nI p) (nI t) υ) (m := 4) (I := fun t υ => FS σ υ k ∧ MB υ k (r * c) pc tn ∧ ∃ s', CS υ k (r * c) s' ∧ s'.2.1 ≤ s'.1 ∧ s'.1 ≤ 20001 ∧ sr_c go (fun p => !(laidB pc (r * c) (nI p))) ft (4 * (r * c - p) - t) (4 * p + t) s' = FIN) (fun n υ h => ?_) (fun n t υ ht h ih => ?_) fu 0 σ (by decide) (fu_lt (by decide)) ⟨FS.refl, hM, s, hC, hs1, hs2, hS⟩
  · show Ev (f_X6_layTurned_b3 F k k1 (n + 1) (nI q) (nI p) (nI 4) υ) _
    rw [f_X6_layTurned_b3]
    simp (disch := omega) only [rdN, wrN, rdZ, wrZ, p_put_eq, call_some, nzN, boN, nI_1, nI_add, pk_mul, lit_4, lit_16, le_T, le_F, lt_T, lt_F, eq_T, eq_F, le_T0, le_F0, lt_F0, lt_T0, eq_T0, eq_F0, eqm_F, up_s2, up_n2, Ev_some, nz_0, nz_1, if_true, if_false, reduceIte, and_true, true_and, and_false, false_and, b2_0, b2_1, Bool.true_eq_false, Bool.false_eq_true, not_true_eq_false, not_false_eq_true]
    obtain ⟨a, b, s', c1, c2, c3, c4⟩ := h
    rw [show 4 * (r * c - p) - 4 = 4 * (r * c - (p + 1)) by omega, show 4 * p + 4 = 4 * (p + 1) by omega] at c4
    exact ⟨a, b, s', c1, c2, c3, c4⟩
  · show Ev (f_X6_layTurned_b3 F k k1 (n + 1) (nI q) (nI p) (nI t) υ) _
    obtain ⟨a, b, s', c1, c2, c3, c4⟩ := h
    have hz' : CutOk υ k1 r c ri dn := hz.fr (fun j hj => a.1 _ (by omega))
    rw [f_X6_layTurned_b3, c1.1]
    simp (disch := omega) only [rdN, wrN, rdZ, wrZ, p_put_eq, call_some, nzN, boN, nI_1, nI_add, pk_mul, lit_4, lit_16, le_T, le_F, lt_T, lt_F, eq_T, eq_F, le_T0, le_F0, lt_F0, lt_T0, eq_T0, eq_F0, eqm_F, up_s2, up_n2, Ev_some, nz_0, nz_1, if_true, if_false, reduceIte, and_true, true_and, and_false, false_and, b2_0, b2_1, Bool.true_eq_false, Bool.false_eq_true, not_true_eq_false, not_false_eq_true, show (20000 : Int32) = nI 20000 from rfl]
    rcases Nat.lt_or_ge 20000 s'.1 with u | u
    · simp (disch := omega) only [rdN, wrN, rdZ, wrZ, p_put_eq, call_some, nzN, boN, nI_1, nI_add, pk_mul, lit_4, lit_16, le_T, le_F, lt_T, lt_F, eq_T, eq_F, le_T0, le_F0, lt_F0, lt_T0, eq_T0, eq_F0, eqm_F, up_s2, up_n2, Ev_some, nz_0, nz_1, if_true, if_false, reduceIte, and_true, true_and, and_false, false_and, b2_0, b2_1, Bool.true_eq_false, Bool.false_eq_true, not_true_eq_false, not_false_eq_true]
      rw [sr_stop _ _ _ u] at c4
      exact ⟨a, b, s', c1, c2, c3, by rw [sr_stop _ _ _ u]; exact c4⟩
    · simp (disch := omega) only [rdN, wrN, rdZ, wrZ, p_put_eq, call_some, nzN, boN, nI_1, nI_add, pk_mul, lit_4, lit_16, le_T, le_F, lt_T, lt_F, eq_T, eq_F, le_T0, le_F0, lt_F0, lt_T0, eq_T0, eq_F0, eqm_F, up_s2, up_n2, Ev_some, nz_0, nz_1, if_true, if_false, reduceIte, and_true, true_and, and_false, false_and, b2_0, b2_1, Bool.true_eq_false, Bool.false_eq_true, not_true_eq_false, not_false_eq_true]
      rw [show 4 * (r * c - p) - t = (4 * (r * c - p) - (t + 1)) + 1 by omega, sr_c, if_neg (by omega), show (4 * p + t) / 4 = p by omega, show (4 * p + t) % 4 = t by omega, hfree, if_pos (by decide), show 4 * p + t + 1 = 4 * p + (t + 1) by omega] at c4
      have C1 : CS (sg_up υ k 4 (nI (s'.1 + 1))) k (r * c) (s'.1 + 1, s'.2) := ⟨by simp (disch := omega) only [rdN, wrN, rdZ, wrZ, p_put_eq, call_some, nzN, boN, nI_1, nI_add, pk_mul, lit_4, lit_16, le_T, le_F, lt_T, lt_F, eq_T, eq_F, le_T0, le_F0, lt_F0, lt_T0, eq_T0, eq_F0, eqm_F, up_s2, up_n2, Ev_some, nz_0, nz_1, if_true, if_false, reduceIte, and_true, true_and, and_false, false_and, b2_0, b2_1, Bool.true_eq_false, Bool.false_eq_true, not_true_eq_false, not_false_eq_true], by simp (disch := omega) only [rdN, wrN, rdZ, wrZ, p_put_eq, call_some, nzN, boN, nI_1, nI_add, pk_mul, lit_4, lit_16, le_T, le_F, lt_T, lt_F, eq_T, eq_F, le_T0, le_F0, lt_F0, lt_T0, eq_T0, eq_F0, eqm_F, up_s2, up_n2, Ev_some, nz_0, nz_1, if_true, if_false, reduceIte, and_true, true_and, and_false, false_and, b2_0, b2_1, Bool.true_eq_false, Bool.false_eq_true, not_true_eq_false, not_false_eq_true, c1.2.1], fun x y z => by rw [up_a (by omega), up_a (by omega)]; exact c1.2.2 x y z⟩
      have M1 : MB (sg_up υ k 4 (nI (s'.1 + 1))) k (r * c) pc tn := by
        unfold MB
        rw [up_a (by omega), up_a (by omega), up_a (by omega), up_a (by omega)]
        exact b
      have F1 : FS σ (sg_up υ k 4 (nI (s'.1 + 1))) k := a.cnt (.inr rfl)
      have hz1 : CutOk (sg_up υ k 4 (nI (s'.1 + 1))) k1 r c ri dn := hz'.fr (fun j hj => up_a (by omega))
      generalize sg_up υ k 4 (nI (s'.1 + 1)) = υ1 at C1 M1 F1 hz1
      rcases Nat.lt_or_ge 20000 (s'.1 + 1) with v | v
      · simp (disch := omega) only [rdN, wrN, rdZ, wrZ, p_put_eq, call_some, nzN, boN, nI_1, nI_add, pk_mul, lit_4, lit_16, le_T, le_F, lt_T, lt_F, eq_T, eq_F, le_T0, le_F0, lt_F0, lt_T0, eq_T0, eq_F0, eqm_F, up_s2, up_n2, Ev_some, nz_0, nz_1, if_true, if_false, reduceIte, and_true, true_and, and_false, false_and, b2_0, b2_1, Bool.true_eq_false, Bool.false_eq_true, not_true_eq_false, not_false_eq_true, f_X6_layTurned_b83]
        rw [if_neg (by omega)] at c4
        exact ih υ1 ⟨F1, M1, _, C1, show s'.2.1 ≤ s'.1 + 1 by omega, show s'.1 + 1 ≤ 20001 by omega, c4⟩
      · simp (disch := omega) only [rdN, wrN, rdZ, wrZ, p_put_eq, call_some, nzN, boN, nI_1, nI_add, pk_mul, lit_4, lit_16, le_T, le_F, lt_T, lt_F, eq_T, eq_F, le_T0, le_F0, lt_F0, lt_T0, eq_T0, eq_F0, eqm_F, up_s2, up_n2, Ev_some, nz_0, nz_1, if_true, if_false, reduceIte, and_true, true_and, and_false, false_and, b2_0, b2_1, Bool.true_eq_false, Bool.false_eq_true, not_true_eq_false, not_false_eq_true, x_isFit hz1 (M1.bd hl hrc rfl) hp ht hq, M1.fit h1 h2 hl hq hp hfree]
        rw [hft] at c4
        have e8 : (fun p t => fit ri dn pc tn r c p t q) p t = fit ri dn pc tn r c p t q := rfl
        rw [e8] at c4
        cases hfit : fit ri dn pc tn r c p t q with
        | false =>
          rw [hfit, if_neg (by simp)] at c4
          simp (disch := omega) only [rdN, wrN, rdZ, wrZ, p_put_eq, call_some, nzN, boN, nI_1, nI_add, pk_mul, lit_4, lit_16, le_T, le_F, lt_T, lt_F, eq_T, eq_F, le_T0, le_F0, lt_F0, lt_T0, eq_T0, eq_F0, eqm_F, up_s2, up_n2, Ev_some, nz_0, nz_1, if_true, if_false, reduceIte, and_true, true_and, and_false, false_and, b2_0, b2_1, Bool.true_eq_false, Bool.false_eq_true, not_true_eq_false, not_false_eq_true, f_X6_layTurned_b83]
          exact ih υ1 ⟨F1, M1, _, C1, show s'.2.1 ≤ s'.1 + 1 by omega, show s'.1 + 1 ≤ 20001 by omega, by rw [hft]; exact c4⟩
        | true =>
          rw [hfit, if_pos ⟨v, rfl⟩, hgo] at c4
          have e9 : (fun p t s' => sr ri dn r c d (ut pc q (nI p)) (ut tn q (nI t)) s') p t (s'.1 + 1, s'.2) = sr ri dn r c d (ut pc q (nI p)) (ut tn q (nI t)) (s'.1 + 1, s'.2) := rfl
          rw [e9] at c4
          simp (disch := omega) only [rdN, wrN, rdZ, wrZ, p_put_eq, call_some, nzN, boN, nI_1, nI_add, pk_mul, lit_4, lit_16, le_T, le_F, lt_T, lt_F, eq_T, eq_F, le_T0, le_F0, lt_F0, lt_T0, eq_T0, eq_F0, eqm_F, up_s2, up_n2, Ev_some, nz_0, nz_1, if_true, if_false, reduceIte, and_true, true_and, and_false, false_and, b2_0, b2_1, Bool.true_eq_false, Bool.false_eq_true, not_true_eq_false, not_false_eq_true, x_put (show q < 16 by omega) (show p < 16 by omega), hd]
          have Sl := sr_le (ri := ri) (dn := dn) (r := r) (c := c) d (ut pc q (nI p)) (ut tn q (nI t)) (s'.1 + 1, s'.2) (show s'.2.1 < s'.1 + 1 by omega) v
          have Lp : Lay (ut pc q (nI p)) (ut tn q (nI t)) (r * c) (r * c - d) := by rw [← hd]; exact hl.put hp ht
          refine Ev.call (hF _ (ut pc q (nI p)) (ut tn q (nI t)) (s'.1 + 1, s'.2) (hz1.fr (fun j hj => by rw [up_a (by omega), up_a (by omega), up_a (by omega), up_a (by omega)])) ?_ Lp ?_ (show s'.2.1 < s'.1 + 1 by omega) v) (fun _ φ ⟨g1, g2, g3⟩ => ?_)
          · refine ⟨fun o ho => ?_, fun o ho => ?_⟩
            · obtain ⟨m1, m2⟩ := M1.1 o ho
              by_cases e : o = q
              · subst e
                simp (disch := omega) only [rdN, wrN, rdZ, wrZ, p_put_eq, call_some, nzN, boN, nI_1, nI_add, pk_mul, lit_4, lit_16, le_T, le_F, lt_T, lt_F, eq_T, eq_F, le_T0, le_F0, lt_F0, lt_T0, eq_T0, eq_F0, eqm_F, up_s2, up_n2, Ev_some, nz_0, nz_1, if_true, if_false, reduceIte, and_true, true_and, and_false, false_and, b2_0, b2_1, Bool.true_eq_false, Bool.false_eq_true, not_true_eq_false, not_false_eq_true, ut_s, or_true]
              · simp (disch := omega) only [rdN, wrN, rdZ, wrZ, p_put_eq, call_some, nzN, boN, nI_1, nI_add, pk_mul, lit_4, lit_16, le_T, le_F, lt_T, lt_F, eq_T, eq_F, le_T0, le_F0, lt_F0, lt_T0, eq_T0, eq_F0, eqm_F, up_s2, up_n2, Ev_some, nz_0, nz_1, if_true, if_false, reduceIte, and_true, true_and, and_false, false_and, b2_0, b2_1, Bool.true_eq_false, Bool.false_eq_true, not_true_eq_false, not_false_eq_true, ut_n e, m1]
                exact m2
            · obtain ⟨m1, m2⟩ := M1.2 o ho
              rw [laid_put hq hrc (by omega) ho hpq]
              by_cases e : o = p
              · subst e
                simp (disch := omega) only [rdN, wrN, rdZ, wrZ, p_put_eq, call_some, nzN, boN, nI_1, nI_add, pk_mul, lit_4, lit_16, le_T, le_F, lt_T, lt_F, eq_T, eq_F, le_T0, le_F0, lt_F0, lt_T0, eq_T0, eq_F0, eqm_F, up_s2, up_n2, Ev_some, nz_0, nz_1, if_true, if_false, reduceIte, and_true, true_and, and_false, false_and, b2_0, b2_1, Bool.true_eq_false, Bool.false_eq_true, not_true_eq_false, not_false_eq_true, m2]
                simp [b2]
              · simp (disch := omega) only [rdN, wrN, rdZ, wrZ, p_put_eq, call_some, nzN, boN, nI_1, nI_add, pk_mul, lit_4, lit_16, le_T, le_F, lt_T, lt_F, eq_T, eq_F, le_T0, le_F0, lt_F0, lt_T0, eq_T0, eq_F0, eqm_F, up_s2, up_n2, Ev_some, nz_0, nz_1, if_true, if_false, reduceIte, and_true, true_and, and_false, false_and, b2_0, b2_1, Bool.true_eq_false, Bool.false_eq_true, not_true_eq_false, not_false_eq_true, m1, m2]
                simp [e]
          · refine ⟨by simp (disch := omega) only [rdN, wrN, rdZ, wrZ, p_put_eq, call_some, nzN, boN, nI_1, nI_add, pk_mul, lit_4, lit_16, le_T, le_F, lt_T, lt_F, eq_T, eq_F, le_T0, le_F0, lt_F0, lt_T0, eq_T0, eq_F0, eqm_F, up_s2, up_n2, Ev_some, nz_0, nz_1, if_true, if_false, reduceIte, and_true, true_and, and_false, false_and, b2_0, b2_1, Bool.true_eq_false, Bool.false_eq_true, not_true_eq_false, not_false_eq_true, C1.1], by simp (disch := omega) only [rdN, wrN, rdZ, wrZ, p_put_eq, call_some, nzN, boN, nI_1, nI_add, pk_mul, lit_4, lit_16, le_T, le_F, lt_T, lt_F, eq_T, eq_F, le_T0, le_F0, lt_F0, lt_T0, eq_T0, eq_F0, eqm_F, up_s2, up_n2, Ev_some, nz_0, nz_1, if_true, if_false, reduceIte, and_true, true_and, and_false, false_and, b2_0, b2_1, Bool.true_eq_false, Bool.false_eq_true, not_true_eq_false, not_false_eq_true, C1.2.1], fun x y z => ?_⟩
            have := C1.2.2 x y z
            simp (disch := omega) only [rdN, wrN, rdZ, wrZ, p_put_eq, call_some, nzN, boN, nI_1, nI_add, pk_mul, lit_4, lit_16, le_T, le_F, lt_T, lt_F, eq_T, eq_F, le_T0, le_F0, lt_F0, lt_T0, eq_T0, eq_F0, eqm_F, up_s2, up_n2, Ev_some, nz_0, nz_1, if_true, if_false, reduceIte, and_true, true_and, and_false, false_and, b2_0, b2_1, Bool.true_eq_false, Bool.false_eq_true, not_true_eq_false, not_false_eq_true, this.1, this.2]
          · have hpp : φ (k + 1 + 1) q = nI p := by
              have := (g2.1 q (by omega)).1
              rw [ut_s] at this
              exact this
            simp (disch := omega) only [rdN, wrN, rdZ, wrZ, p_put_eq, call_some, nzN, boN, nI_1, nI_add, pk_mul, lit_4, lit_16, le_T, le_F, lt_T, lt_F, eq_T, eq_F, le_T0, le_F0, lt_F0, lt_T0, eq_T0, eq_F0, eqm_F, up_s2, up_n2, Ev_some, nz_0, nz_1, if_true, if_false, reduceIte, and_true, true_and, and_false, false_and, b2_0, b2_1, Bool.true_eq_false, Bool.false_eq_true, not_true_eq_false, not_false_eq_true, x_takeUp (show q < 16 by omega) (show p < 16 by omega) hpp, f_X6_layTurned_b83]
            have Fa : FS σ φ k := F1.trans (FS.trans ((((FS.refl.up (by omega)).up (by omega)).up (by omega)).up (by omega)) g1)
            refine ih _ ⟨(Fa.up (by omega)).up (by omega), ⟨fun o ho => ?_, fun o ho => ?_⟩, _, ⟨?_, ?_, fun x y z => ?_⟩, Sl.2.2, Sl.2.1, by rw [hgo, hft]; exact c4⟩
            · obtain ⟨m1, m2⟩ := g2.1 o ho
              by_cases e : o = q
              · subst e
                simp (disch := omega) only [rdN, wrN, rdZ, wrZ, p_put_eq, call_some, nzN, boN, nI_1, nI_add, pk_mul, lit_4, lit_16, le_T, le_F, lt_T, lt_F, eq_T, eq_F, le_T0, le_F0, lt_F0, lt_T0, eq_T0, eq_F0, eqm_F, up_s2, up_n2, Ev_some, nz_0, nz_1, if_true, if_false, reduceIte, and_true, true_and, and_false, false_and, b2_0, b2_1, Bool.true_eq_false, Bool.false_eq_true, not_true_eq_false, not_false_eq_true, hpq, true_or]
              · rw [ut_n e, ut_n e] at m2
                rw [ut_n e] at m1
                simp (disch := omega) only [rdN, wrN, rdZ, wrZ, p_put_eq, call_some, nzN, boN, nI_1, nI_add, pk_mul, lit_4, lit_16, le_T, le_F, lt_T, lt_F, eq_T, eq_F, le_T0, le_F0, lt_F0, lt_T0, eq_T0, eq_F0, eqm_F, up_s2, up_n2, Ev_some, nz_0, nz_1, if_true, if_false, reduceIte, and_true, true_and, and_false, false_and, b2_0, b2_1, Bool.true_eq_false, Bool.false_eq_true, not_true_eq_false, not_false_eq_true, m1]
                exact m2
            · obtain ⟨m1, m2⟩ := g2.2 o ho
              rw [laid_put hq hrc (by omega) ho hpq] at m1
              by_cases e : o = p
              · subst e
                simp (disch := omega) only [rdN, wrN, rdZ, wrZ, p_put_eq, call_some, nzN, boN, nI_1, nI_add, pk_mul, lit_4, lit_16, le_T, le_F, lt_T, lt_F, eq_T, eq_F, le_T0, le_F0, lt_F0, lt_T0, eq_T0, eq_F0, eqm_F, up_s2, up_n2, Ev_some, nz_0, nz_1, if_true, if_false, reduceIte, and_true, true_and, and_false, false_and, b2_0, b2_1, Bool.true_eq_false, Bool.false_eq_true, not_true_eq_false, not_false_eq_true, m2, hfree]
                rfl
              · simp (disch := omega) only [rdN, wrN, rdZ, wrZ, p_put_eq, call_some, nzN, boN, nI_1, nI_add, pk_mul, lit_4, lit_16, le_T, le_F, lt_T, lt_F, eq_T, eq_F, le_T0, le_F0, lt_F0, lt_T0, eq_T0, eq_F0, eqm_F, up_s2, up_n2, Ev_some, nz_0, nz_1, if_true, if_false, reduceIte, and_true, true_and, and_false, false_and, b2_0, b2_1, Bool.true_eq_false, Bool.false_eq_true, not_true_eq_false, not_false_eq_true, m1, m2]
                simp [e]
            · simp (disch := omega) only [rdN, wrN, rdZ, wrZ, p_put_eq, call_some, nzN, boN, nI_1, nI_add, pk_mul, lit_4, lit_16, le_T, le_F, lt_T, lt_F, eq_T, eq_F, le_T0, le_F0, lt_F0, lt_T0, eq_T0, eq_F0, eqm_F, up_s2, up_n2, Ev_some, nz_0, nz_1, if_true, if_false, reduceIte, and_true, true_and, and_false, false_and, b2_0, b2_1, Bool.true_eq_false, Bool.false_eq_true, not_true_eq_false, not_false_eq_true, g3.1]
            · simp (disch := omega) only [rdN, wrN, rdZ, wrZ, p_put_eq, call_some, nzN, boN, nI_1, nI_add, pk_mul, lit_4, lit_16, le_T, le_F, lt_T, lt_F, eq_T, eq_F, le_T0, le_F0, lt_F0, lt_T0, eq_T0, eq_F0, eqm_F, up_s2, up_n2, Ev_some, nz_0, nz_1, if_true, if_false, reduceIte, and_true, true_and, and_false, false_and, b2_0, b2_1, Bool.true_eq_false, Bool.false_eq_true, not_true_eq_false, not_false_eq_true, g3.2.1]
            · have := g3.2.2 x y z
              simp (disch := omega) only [rdN, wrN, rdZ, wrZ, p_put_eq, call_some, nzN, boN, nI_1, nI_add, pk_mul, lit_4, lit_16, le_T, le_F, lt_T, lt_F, eq_T, eq_F, le_T0, le_F0, lt_F0, lt_T0, eq_T0, eq_F0, eqm_F, up_s2, up_n2, Ev_some, nz_0, nz_1, if_true, if_false, reduceIte, and_true, true_and, and_false, false_and, b2_0, b2_1, Bool.true_eq_false, Bool.false_eq_true, not_true_eq_false, not_false_eq_true, this.1, this.2]
end SX1
