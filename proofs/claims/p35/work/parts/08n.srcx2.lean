/-! the class goes through the ways: layFrom, goThrough -/
section SX1
variable {k k1 r c : Nat} {ri dn : Nat → Int32}
/-- four candidates of a piece that lies somewhere are passed over -/
theorem sr_skip {go : Nat → Nat → SS → SS} {fr : Nat → Bool} {ft : Nat → Nat → Bool} {p m : Nat} {s : SS} (hp : fr p = false) : sr_c go fr ft (m + 4) (4 * p) s = sr_c go fr ft m (4 * (p + 1)) s := by
  have st : ∀ m j s, j < 4 → sr_c go fr ft (m + 1) (4 * p + j) s = sr_c go fr ft m (4 * p + (j + 1)) s := fun m j s hj => by
    rw [sr_c, show (4 * p + j) / 4 = p by omega, hp]
    simp only [Bool.false_eq_true, if_false, ite_self]
    rfl
  exact (st (m + 3) 0 s (by decide)).trans ((st (m + 2) 1 s (by decide)).trans ((st (m + 1) 2 s (by decide)).trans (st m 3 s (by decide))))
theorem x_layFromS {F : Nat → Nat → Int32 → Sg → Rs} {d : Nat} (hk : k1 + 4 < k) (hF : RecOk k k1 r c ri dn d F) (hdr : d + 1 ≤ r * c) (σ : Sg) (pc tn : Nat → Int32) (s : SS) (hz : CutOk σ k1 r c ri dn) (hM : MB σ k (r * c) pc tn) (hl : Lay pc tn (r * c) (r * c - (d + 1))) (hC : CS σ k (r * c) s) (hs1 : s.2.1 ≤ s.1) (hs2 : s.1 ≤ 20001) : Ev (f_X6_layFromR F k k1 (nI (r * c - (d + 1))) σ) (fun _ υ => FS σ υ k ∧ MB υ k (r * c) pc tn ∧ CS υ k (r * c) (sr ri dn r c (d + 1) pc tn s)) := by
  have hrc := hz.rc
  unfold f_X6_layFromR
  rw [hz.n]
  simp (disch := omega) only [rdN, wrN, rdZ, wrZ, p_put_eq, call_some, nzN, boN, nI_1, nI_add, pk_mul, lit_4, lit_16, le_T, le_F, lt_T, lt_F, eq_T, eq_F, le_T0, le_F0, lt_F0, lt_T0, eq_T0, eq_F0, eqm_F, up_s2, up_n2, Ev_some, nz_0, nz_1, if_true, if_false, reduceIte, and_true, true_and, and_false, false_and, b2_0, b2_1, Bool.true_eq_false, Bool.false_eq_true, not_true_eq_false, not_false_eq_true]
  generalize hq : r * c - (d + 1) = q
  rw [hq] at hl
  refine lp_ev (L := fun n p υ => f_X6_layFrom_b40 F k k1 n (nI q) (nI p) υ) (m := r * c) (I := fun p υ => FS σ υ k ∧ MB υ k (r * c) pc tn ∧ ∃ s', CS υ k (r * c) s' ∧ s'.2.1 ≤ s'.1 ∧ s'.1 ≤ 20001 ∧ sr_c (fun p t s' => sr ri dn r c d (ut pc q (nI p)) (ut tn q (nI t)) s') (fun p => !(laidB pc (r * c) (nI p))) (fun p t => fit ri dn pc tn r c p t q) (4 * (r * c - p)) (4 * p) s' = sr ri dn r c (d + 1) pc tn s) (fun n υ h => ?_) (fun n p υ hp h ih => ?_) fu 0 σ (Nat.zero_le _) (fu_lt (by omega)) ⟨FS.refl, hM, s, hC, hs1, hs2, by rw [sr, hq]; rfl⟩
  · show Ev (f_X6_layFrom_b40 F k k1 (n + 1) (nI q) (nI (r * c)) υ) _
    obtain ⟨a, b, s', c1, c2, c3, c4⟩ := h
    have hz' : CutOk υ k1 r c ri dn := hz.fr (fun j hj => a.1 _ (by omega))
    rw [f_X6_layFrom_b40, hz'.n]
    simp (disch := omega) only [rdN, wrN, rdZ, wrZ, p_put_eq, call_some, nzN, boN, nI_1, nI_add, pk_mul, lit_4, lit_16, le_T, le_F, lt_T, lt_F, eq_T, eq_F, le_T0, le_F0, lt_F0, lt_T0, eq_T0, eq_F0, eqm_F, up_s2, up_n2, Ev_some, nz_0, nz_1, if_true, if_false, reduceIte, and_true, true_and, and_false, false_and, b2_0, b2_1, Bool.true_eq_false, Bool.false_eq_true, not_true_eq_false, not_false_eq_true]
    rw [Nat.sub_self, Nat.mul_zero, sr_c] at c4
    rw [← c4]
    exact ⟨a, b, c1⟩
  · show Ev (f_X6_layFrom_b40 F k k1 (n + 1) (nI q) (nI p) υ) _
    obtain ⟨a, b, s', c1, c2, c3, c4⟩ := h
    have hz' : CutOk υ k1 r c ri dn := hz.fr (fun j hj => a.1 _ (by omega))
    rw [f_X6_layFrom_b40, hz'.n, c1.1]
    simp (disch := omega) only [rdN, wrN, rdZ, wrZ, p_put_eq, call_some, nzN, boN, nI_1, nI_add, pk_mul, lit_4, lit_16, le_T, le_F, lt_T, lt_F, eq_T, eq_F, le_T0, le_F0, lt_F0, lt_T0, eq_T0, eq_F0, eqm_F, up_s2, up_n2, Ev_some, nz_0, nz_1, if_true, if_false, reduceIte, and_true, true_and, and_false, false_and, b2_0, b2_1, Bool.true_eq_false, Bool.false_eq_true, not_true_eq_false, not_false_eq_true, show (20000 : Int32) = nI 20000 from rfl, x_isAway (show p < 16 by omega)]
    rcases Nat.lt_or_ge 20000 s'.1 with u | u
    · simp (disch := omega) only [rdN, wrN, rdZ, wrZ, p_put_eq, call_some, nzN, boN, nI_1, nI_add, pk_mul, lit_4, lit_16, le_T, le_F, lt_T, lt_F, eq_T, eq_F, le_T0, le_F0, lt_F0, lt_T0, eq_T0, eq_F0, eqm_F, up_s2, up_n2, Ev_some, nz_0, nz_1, if_true, if_false, reduceIte, and_true, true_and, and_false, false_and, b2_0, b2_1, Bool.true_eq_false, Bool.false_eq_true, not_true_eq_false, not_false_eq_true]
      rw [sr_stop _ _ _ u] at c4
      rw [← c4]
      exact ⟨a, b, c1⟩
    · simp (disch := omega) only [rdN, wrN, rdZ, wrZ, p_put_eq, call_some, nzN, boN, nI_1, nI_add, pk_mul, lit_4, lit_16, le_T, le_F, lt_T, lt_F, eq_T, eq_F, le_T0, le_F0, lt_F0, lt_T0, eq_T0, eq_F0, eqm_F, up_s2, up_n2, Ev_some, nz_0, nz_1, if_true, if_false, reduceIte, and_true, true_and, and_false, false_and, b2_0, b2_1, Bool.true_eq_false, Bool.false_eq_true, not_true_eq_false, not_false_eq_true]
      obtain ⟨m1, m2⟩ := b.2 p (by omega)
      have ea : aw (υ (k + 1 + 4)) (υ (k + 1 + 5)) p = laidB pc (r * c) (nI p) := by
        unfold aw
        rw [show υ (k + 1 + 4) p = υ (k + 5) p from rfl, show υ (k + 1 + 5) p = υ (k + 6) p from rfl, m1, m2]
        cases laidB pc (r * c) (nI p) <;> rfl
      rw [ea]
      cases hf : laidB pc (r * c) (nI p) with
      | false =>
        simp (disch := omega) only [rdN, wrN, rdZ, wrZ, p_put_eq, call_some, nzN, boN, nI_1, nI_add, pk_mul, lit_4, lit_16, le_T, le_F, lt_T, lt_F, eq_T, eq_F, le_T0, le_F0, lt_F0, lt_T0, eq_T0, eq_F0, eqm_F, up_s2, up_n2, Ev_some, nz_0, nz_1, if_true, if_false, reduceIte, and_true, true_and, and_false, false_and, b2_0, b2_1, Bool.true_eq_false, Bool.false_eq_true, not_true_eq_false, not_false_eq_true]
        refine Ev.call (x_layTurned (d := d) hk hF (by omega) rfl rfl hz' b hl hp (by omega) hf (by omega) c1 c2 c3 c4) (fun _ φ ⟨g1, g2, g3⟩ => ?_)
        rw [f_X6_layFrom_b76, nI_1]
        exact ih φ ⟨a.trans g1, g2, g3⟩
      | true =>
        simp (disch := omega) only [rdN, wrN, rdZ, wrZ, p_put_eq, call_some, nzN, boN, nI_1, nI_add, pk_mul, lit_4, lit_16, le_T, le_F, lt_T, lt_F, eq_T, eq_F, le_T0, le_F0, lt_F0, lt_T0, eq_T0, eq_F0, eqm_F, up_s2, up_n2, Ev_some, nz_0, nz_1, if_true, if_false, reduceIte, and_true, true_and, and_false, false_and, b2_0, b2_1, Bool.true_eq_false, Bool.false_eq_true, not_true_eq_false, not_false_eq_true, f_X6_layFrom_b76]
        refine ih υ ⟨a, b, s', c1, c2, c3, ?_⟩
        rw [show 4 * (r * c - p) = 4 * (r * c - (p + 1)) + 4 by omega, sr_skip (by rw [hf]; rfl)] at c4
        exact c4
theorem x_layFrom0 {F : Nat → Nat → Int32 → Sg → Rs} (hk : k1 + 4 < k) (σ : Sg) (pc tn : Nat → Int32) (s : SS) (hz : CutOk σ k1 r c ri dn) (hM : MB σ k (r * c) pc tn) (hl : Lay pc tn (r * c) (r * c)) (hC : CS σ k (r * c) s) (hs1 : s.2.1 ≤ s.1) (hs2 : s.1 ≤ 20001) : Ev (f_X6_layFromR F k k1 (nI (r * c)) σ) (fun _ υ => FS σ υ k ∧ MB υ k (r * c) pc tn ∧ CS υ k (r * c) (sr ri dn r c 0 pc tn s)) := by
  have hrc := hz.rc
  unfold f_X6_layFromR
  rw [hz.n]
  simp (disch := omega) only [rdN, wrN, rdZ, wrZ, p_put_eq, call_some, nzN, boN, nI_1, nI_add, pk_mul, lit_4, lit_16, le_T, le_F, lt_T, lt_F, eq_T, eq_F, le_T0, le_F0, lt_F0, lt_T0, eq_T0, eq_F0, eqm_F, up_s2, up_n2, Ev_some, nz_0, nz_1, if_true, if_false, reduceIte, and_true, true_and, and_false, false_and, b2_0, b2_1, Bool.true_eq_false, Bool.false_eq_true, not_true_eq_false, not_false_eq_true]
  rw [hC.2.1, nI_1]
  simp only [q_1 (show s.2.1 + 1 < 2 ^ 31 by omega)]
  have M1 : MB (sg_up σ k 3 (nI (s.2.1 + 1))) k (r * c) pc tn := by
    unfold MB
    rw [up_a (by omega), up_a (by omega), up_a (by omega), up_a (by omega)]
    exact hM
  have F1 : FS σ (sg_up σ k 3 (nI (s.2.1 + 1))) k := FS.refl.cnt (.inl rfl)
  have e4 : sg_up σ k 3 (nI (s.2.1 + 1)) k 4 = nI s.1 := by simp (disch := omega) only [rdN, wrN, rdZ, wrZ, p_put_eq, call_some, nzN, boN, nI_1, nI_add, pk_mul, lit_4, lit_16, le_T, le_F, lt_T, lt_F, eq_T, eq_F, le_T0, le_F0, lt_F0, lt_T0, eq_T0, eq_F0, eqm_F, up_s2, up_n2, Ev_some, nz_0, nz_1, if_true, if_false, reduceIte, and_true, true_and, and_false, false_and, b2_0, b2_1, Bool.true_eq_false, Bool.false_eq_true, not_true_eq_false, not_false_eq_true, hC.1]
  have e3 : sg_up σ k 3 (nI (s.2.1 + 1)) k 3 = nI (s.2.1 + 1) := by simp (disch := omega) only [rdN, wrN, rdZ, wrZ, p_put_eq, call_some, nzN, boN, nI_1, nI_add, pk_mul, lit_4, lit_16, le_T, le_F, lt_T, lt_F, eq_T, eq_F, le_T0, le_F0, lt_F0, lt_T0, eq_T0, eq_F0, eqm_F, up_s2, up_n2, Ev_some, nz_0, nz_1, if_true, if_false, reduceIte, and_true, true_and, and_false, false_and, b2_0, b2_1, Bool.true_eq_false, Bool.false_eq_true, not_true_eq_false, not_false_eq_true]
  have e8 : sg_up σ k 3 (nI (s.2.1 + 1)) (k + 8) = σ (k + 8) := up_a (by omega)
  have e9 : sg_up σ k 3 (nI (s.2.1 + 1)) (k + 9) = σ (k + 9) := up_a (by omega)
  generalize sg_up σ k 3 (nI (s.2.1 + 1)) = υ at M1 F1 e4 e3 e8 e9
  by_cases h0 : s.2.1 = 0
  · rw [if_pos (by omega)]
    have hb : BoB υ (k + 1) := fun i hi => by
      obtain ⟨m1, m2⟩ := M1.2 i hi
      show nz (υ (k + 5) i) = υ (k + 5) i ∧ nz (υ (k + 6) i) = υ (k + 6) i
      rw [m1, m2]
      exact ⟨nz_b, nz_0⟩
    refine Ev.call (x_copyB (k := k + 7) (k1 := k + 1) (by omega) hb) (fun _ φ ⟨g1, g2⟩ => ?_)
    rw [Ev_some]
    refine ⟨F1.trans (FS.fr (g1.wide (by omega) (by omega))), ?_, ?_, ?_, fun _ q hq => ?_⟩
    · unfold MB
      rw [g1 (k + 2) (by omega), g1 (k + 3) (by omega), g1 (k + 5) (by omega), g1 (k + 6) (by omega)]
      exact M1
    · rw [g1 k (by omega), e4]; rfl
    · rw [g1 k (by omega), e3]; rfl
    · obtain ⟨b1, b2, -⟩ := g2 q (by omega)
      obtain ⟨m1, m2⟩ := M1.1 q (by omega)
      have n1 : ¬ pc q = -1 := by
        obtain ⟨p, t, hp, -, e, -⟩ := hl.1 q hq
        rw [e]; exact nI_nm1 (by omega)
      show φ (k + 8) q = (if s.2.1 = 0 then (pc, tn) else s.2.2).1 q ∧ φ (k + 9) q = (if s.2.1 = 0 then (pc, tn) else s.2.2).2 q
      rw [if_pos h0]
      exact ⟨b1.trans m1, b2.trans (m2.resolve_left n1)⟩
  · rw [if_neg (by omega), Ev_some]
    refine ⟨F1, M1, e4, e3, fun _ q hq => ?_⟩
    show υ (k + 8) q = (if s.2.1 = 0 then (pc, tn) else s.2.2).1 q ∧ υ (k + 9) q = (if s.2.1 = 0 then (pc, tn) else s.2.2).2 q
    rw [if_neg h0, e8, e9]
    exact hC.2.2 (by omega) q hq
theorem x_recOk (hk : k1 + 4 < k) : ∀ (d m : Nat), d ≤ r * c → d < m → RecOk k k1 r c ri dn d (f_X6_layFrom m)
  | 0, m, _, h => by
    obtain ⟨m', rfl⟩ : ∃ m', m = m' + 1 := ⟨m - 1, by omega⟩
    intro σ pc tn s hz hM hl hC hs1 hs2
    rw [f_X6_layFrom, Nat.sub_zero]
    rw [Nat.sub_zero] at hl
    exact x_layFrom0 hk σ pc tn s hz hM hl hC (by omega) (by omega)
  | d + 1, m, hd, h => by
    obtain ⟨m', rfl⟩ : ∃ m', m = m' + 1 := ⟨m - 1, by omega⟩
    intro σ pc tn s hz hM hl hC hs1 hs2
    rw [f_X6_layFrom]
    exact x_layFromS hk (x_recOk hk d m' (by omega) (by omega)) hd σ pc tn s hz hM hl hC (by omega) (by omega)
/-- all ways of a puzzle: how many were tried, found, and the first -/
def allW (ri dn : Nat → Int32) (r c : Nat) : SS := sr ri dn r c (r * c) (fun _ => -1) (fun _ => 0) (0, 0, (fun _ => 0), (fun _ => 0))
/-- what the search keeps, if it is known, is of this puzzle -/
def Known (σ : Sg) (k r c : Nat) (ri dn : Nat → Int32) : Prop := CS σ k (r * c) (allW ri dn r c)
theorem x_goThrough {σ : Sg} (hk : k1 + 4 < k) (hz : CutOk σ k1 r c ri dn) (hK : σ k 2 = 0 ∨ (σ k 2 = 1 ∧ Known σ k r c ri dn)) : Ev (f_X6_goThrough k k1 σ) (fun _ υ => (∀ a, a < k ∨ k + 12 < a → υ a = σ a) ∧ υ k 2 = 1 ∧ Known υ k r c ri dn) := by
  have hrc := hz.rc
  have hpos : 4 ≤ r * c := Nat.mul_le_mul hz.r.1 hz.c.1
  unfold f_X6_goThrough
  rcases hK with h0 | ⟨h1, hK⟩
  · rw [if_pos h0]
    simp (disch := omega) only [rdN, wrN, rdZ, wrZ, p_put_eq, call_some, nzN, boN, nI_1, nI_add, pk_mul, lit_4, lit_16, le_T, le_F, lt_T, lt_F, eq_T, eq_F, le_T0, le_F0, lt_F0, lt_T0, eq_T0, eq_F0, eqm_F, up_s2, up_n2, Ev_some, nz_0, nz_1, if_true, if_false, reduceIte, and_true, true_and, and_false, false_and, b2_0, b2_1, Bool.true_eq_false, Bool.false_eq_true, not_true_eq_false, not_false_eq_true]
    refine Ev.call x_clearB (fun _ υ ⟨f1, f2, f3, f4⟩ => ?_)
    have hz' : CutOk υ k1 r c ri dn := hz.fr (fun j hj => by rw [f1 _ (by omega), up_a (by omega), up_a (by omega)])
    have hM : MB υ k (r * c) (fun _ => -1) (fun _ => 0) := by
      refine ⟨fun o ho => ⟨(f4 o ho).1, .inl rfl⟩, fun p hp => ⟨?_, (f4 p hp).2.2⟩⟩
      have : laidB (fun _ => -1) (r * c) (nI p) = false := by
        cases hb : laidB (fun _ => (-1 : Int32)) (r * c) (nI p) with
        | false => rfl
        | true =>
          obtain ⟨q, -, e⟩ := laidB_iff.mp hb
          exact absurd e.symm (nI_nm1 (by omega))
      rw [this]
      exact (f4 p hp).2.1
    have hC : CS υ k (r * c) (0, 0, (fun _ => 0), (fun _ => 0)) := by
      refine ⟨?_, ?_, fun x => absurd x (Nat.lt_irrefl _)⟩
      · rw [f1 k (by omega)]
        simp (disch := omega) only [rdN, wrN, rdZ, wrZ, p_put_eq, call_some, nzN, boN, nI_1, nI_add, pk_mul, lit_4, lit_16, le_T, le_F, lt_T, lt_F, eq_T, eq_F, le_T0, le_F0, lt_F0, lt_T0, eq_T0, eq_F0, eqm_F, up_s2, up_n2, Ev_some, nz_0, nz_1, if_true, if_false, reduceIte, and_true, true_and, and_false, false_and, b2_0, b2_1, Bool.true_eq_false, Bool.false_eq_true, not_true_eq_false, not_false_eq_true]
        rfl
      · rw [f1 k (by omega)]
        simp (disch := omega) only [rdN, wrN, rdZ, wrZ, p_put_eq, call_some, nzN, boN, nI_1, nI_add, pk_mul, lit_4, lit_16, le_T, le_F, lt_T, lt_F, eq_T, eq_F, le_T0, le_F0, lt_F0, lt_T0, eq_T0, eq_F0, eqm_F, up_s2, up_n2, Ev_some, nz_0, nz_1, if_true, if_false, reduceIte, and_true, true_and, and_false, false_and, b2_0, b2_1, Bool.true_eq_false, Bool.false_eq_true, not_true_eq_false, not_false_eq_true]
        rfl
    obtain ⟨d, hd⟩ : ∃ d, r * c = d + 1 := ⟨r * c - 1, by omega⟩
    have R := x_layFromS (F := f_X6_layFrom 19) (d := d) hk (x_recOk hk d 19 (by omega) (by omega)) (by omega) υ _ _ _ hz' hM ⟨fun o ho => by omega, fun o _ _ => rfl⟩ hC (Nat.le_refl _) (by decide)
    rw [show r * c - (d + 1) = 0 by omega] at R
    refine Ev.call (show Ev (f_X6_layFrom 20 k k1 0 υ) _ from R) (fun _ φ ⟨g1, g2, g3⟩ => ?_)
    rw [bo1, Ev_some]
    refine ⟨fun a ha => ?_, by simp (disch := omega) only [rdN, wrN, rdZ, wrZ, p_put_eq, call_some, nzN, boN, nI_1, nI_add, pk_mul, lit_4, lit_16, le_T, le_F, lt_T, lt_F, eq_T, eq_F, le_T0, le_F0, lt_F0, lt_T0, eq_T0, eq_F0, eqm_F, up_s2, up_n2, Ev_some, nz_0, nz_1, if_true, if_false, reduceIte, and_true, true_and, and_false, false_and, b2_0, b2_1, Bool.true_eq_false, Bool.false_eq_true, not_true_eq_false, not_false_eq_true], ?_, ?_, fun x q hq => ?_⟩
    · rw [up_a (by omega), g1.1 a ha, f1 a (by omega), up_a (by omega), up_a (by omega)]
    · unfold allW
      rw [hd]
      simp (disch := omega) only [rdN, wrN, rdZ, wrZ, p_put_eq, call_some, nzN, boN, nI_1, nI_add, pk_mul, lit_4, lit_16, le_T, le_F, lt_T, lt_F, eq_T, eq_F, le_T0, le_F0, lt_F0, lt_T0, eq_T0, eq_F0, eqm_F, up_s2, up_n2, Ev_some, nz_0, nz_1, if_true, if_false, reduceIte, and_true, true_and, and_false, false_and, b2_0, b2_1, Bool.true_eq_false, Bool.false_eq_true, not_true_eq_false, not_false_eq_true, g3.1]
    · unfold allW
      rw [hd]
      simp (disch := omega) only [rdN, wrN, rdZ, wrZ, p_put_eq, call_some, nzN, boN, nI_1, nI_add, pk_mul, lit_4, lit_16, le_T, le_F, lt_T, lt_F, eq_T, eq_F, le_T0, le_F0, lt_F0, lt_T0, eq_T0, eq_F0, eqm_F, up_s2, up_n2, Ev_some, nz_0, nz_1, if_true, if_false, reduceIte, and_true, true_and, and_false, false_and, b2_0, b2_1, Bool.true_eq_false, Bool.false_eq_true, not_true_eq_false, not_false_eq_true, g3.2.1]
    · unfold allW at x ⊢
      rw [hd] at x ⊢
      rw [up_a (by omega), up_a (by omega)]
      exact g3.2.2 x q hq
  · rw [if_neg (by rw [h1]; decide), Ev_some]
    exact ⟨fun _ _ => rfl, h1, hK⟩
end SX1
