/-! evening -/
/-- a draw's number -/
def drN (s : Int32) (m : Nat) : Nat := s.toBitVec.toNat % 2 ^ 31 / 256 % m
def nxS (s : Int32) : Int32 := s * 1664525 + 1013904223
theorem dr_v {s : Int32} {m : Nat} (h1 : 1 ≤ m) (h2 : m < 2 ^ 31) : (s &&& 2147483647) / 256 - (s &&& 2147483647) / 256 / nI m * nI m = nI (drN s m) := by
  have e1 : s &&& 2147483647 = nI (s.toBitVec.toNat % 2 ^ 31) := pk_and s 31 (by decide)
  have l1 : s.toBitVec.toNat % 2 ^ 31 < 2 ^ 31 := Nat.mod_lt _ (by decide)
  have e2 : nI (s.toBitVec.toNat % 2 ^ 31) / 256 = nI (s.toBitVec.toNat % 2 ^ 31 / 256) := pk_div (d := 256) l1 (by decide) (by decide)
  rw [e1, e2]
  exact pk_rem (by omega) h1 h2
theorem dr_lt {s : Int32} {m : Nat} (h1 : 1 ≤ m) : drN s m < m := Nat.mod_lt _ h1
theorem x_draw {σ : Sg} {k m : Nat} (h1 : 1 ≤ m) (h2 : m < 2 ^ 31) : f_X2_draw k (nI m) σ = some (nI (drN (nxS (σ k 1)) m), sg_up σ k 1 (nxS (σ k 1))) := by
  unfold f_X2_draw
  rw [p_put_eq, if_pos (show (1 : Int32) ≤ nI m from nI_le (a := 1) h1 h2), nzN h1 h2, up_s2 ⟨rfl, rfl⟩]
  rw [show σ k 1 * 1664525 + 1013904223 = nxS (σ k 1) from rfl, dr_v h1 h2]
theorem y_draw {τ : Sg} {k m : Nat} (h1 : 1 ≤ m) (h2 : m < 2 ^ 31) : f_X11_draw k (nI m) τ = some (nI (drN (nxS (τ k 37)) m), sg_up τ k 37 (nxS (τ k 37))) := by
  unfold f_X11_draw
  rw [p_put_eq, nzN h1 h2, up_s2 ⟨rfl, rfl⟩]
  rw [show τ k 37 * 1664525 + 1013904223 = nxS (τ k 37) from rfl, dr_v h1 h2]
/-- a board: what lies, in which turns; nothing beyond m -/
def BdP (pc tn : Nat → Int32) (m : Nat) : Prop := ∀ q, q < 16 → pc q = -1 ∨ (q < m ∧ ∃ p t, p < m ∧ t < 4 ∧ pc q = nI p ∧ tn q = nI t)
theorem BdP.put {pc tn : Nat → Int32} {m q p t : Nat} (h : BdP pc tn m) (hq : q < m) (hp : p < m) (ht : t < 4) : BdP (ut pc q (nI p)) (ut tn q (nI t)) m := fun o ho => by
  by_cases e : o = q
  · subst e
    exact .inr ⟨hq, p, t, hp, ht, ut_s, ut_s⟩
  · rw [ut_n e, ut_n e]; exact h o ho
theorem fit_free2 {ri dn pc tn pc' tn' : Nat → Int32} {r c p t q : Nat} (h1 : 2 ≤ r ∧ r < 5) (h2 : 2 ≤ c ∧ c < 5) (hb : BdP pc tn (r * c)) (he : ∀ o, o < 16 → pc' o = pc o ∧ tn' o = tn o) (hq : q < r * c) (hf : laidB pc (r * c) (nI p) = false) : fitX ri dn pc' tn' r c p t q = fit ri dn pc tn r c p t q := by
  have hrc := rc16 h1 h2
  rw [fitX_eq (pc := pc') h1 h2 hq (fun o ho => ⟨?_, .inr rfl⟩)]
  · exact fit_congr h1 h2 hq (fun o ho => ⟨(he o (by omega)).1, .inr (he o (by omega)).2⟩)
  · rw [(he o (by omega)).1]
    rcases hb o (by omega) with w | ⟨-, p', t', hp', ht', w, w2⟩
    · rw [w]; exact ⟨fun _ => .inl (by decide), fun _ => rfl⟩
    · refine ⟨fun u => absurd (w.symm.trans u) (nI_nm1 (by omega)), fun u => ?_⟩
      rcases u with u | u
      · rw [w] at u; exact absurd u (nI_pos (by omega))
      · rw [laidB_iff.mpr ⟨o, ho, u⟩] at hf; cases hf
theorem kindV_12 {ri dn pc tn : Nat → Int32} {r c p t q : Nat} : (kindV ri dn pc tn r c p t q = 1 ∨ kindV ri dn pc tn r c p t q = 2) ↔ fit ri dn pc tn r c p t q = true := by
  unfold kindV
  cases fit ri dn pc tn r c p t q
  · cases atRim ri dn r c p t q <;> simp
  · by_cases h : p = q ∧ t = 0
    · simp [h]
    · simp [h]
theorem laid_cnt {pc : Nat → Int32} {m q p : Nat} (hq : q < m) (hp : p < 16) (hf : pc q = -1) : sm (fun o => b2 (flR (ut pc q (nI p)) o)) 0 m = sm (fun o => b2 (flR pc o)) 0 m + 1 := by
  rw [sm_wo (g := fun o => b2 (flR (ut pc q (nI p)) o)) (p := q) m 0 (Nat.zero_le _) (by omega), sm_wo (g := fun o => b2 (flR pc o)) (p := q) m 0 (Nat.zero_le _) (by omega)]
  have e1 : b2 (flR (ut pc q (nI p)) q) = 1 := by
    unfold flR
    rw [ut_s, decide_eq_false (nI_pos (by omega))]; rfl
  have e2 : b2 (flR pc q) = 0 := by
    unfold flR
    rw [hf]; decide
  rw [e1, e2, Int32.add_zero]
  congr 1
  refine sm_congr _ _ (fun o _ _ => ?_)
  by_cases e : o = q
  · rw [if_pos e, if_pos e]
  · rw [if_neg e, if_neg e]
    unfold flR
    rw [ut_n e]
section RL2
variable {i : Nat} {σ τ τ1 : Sg} {r c n N : Nat}
/-- how the boards in mind stand to one another -/
def EvR (σ τ1 υ φ : Sg) (r c : Nat) (had : Int32) (num : Nat) : Prop := (∀ a, a < 95 ∨ 101 < a → υ a = σ a) ∧ (∀ a, a ≠ 103 → a ≠ 108 → a ≠ 109 → a ≠ 110 → a ≠ 114 → φ a = τ1 a) ∧ (∀ b, b ≠ 14 → b ≠ 37 → φ 103 b = τ1 103 b) ∧ υ 95 1 = φ 103 37 ∧ BdP (φ 108) (φ 109) (r * c) ∧ (∀ q, q < 16 → υ 97 q = φ 108 q ∧ υ 98 q = φ 109 q ∧ υ 100 q = b2 (laidB (φ 108) (r * c) (nI q)) ∧ υ 101 q = τ1 111 q) ∧ sm (fun o => b2 (flR (φ 108) o)) 0 (r * c) = had + nI num
theorem ev_run {had : Int32} (hz : CutOk σ 2 r c (τ1 105) (τ1 106)) (hzr : Sz τ1 103 r c) (hl : ∀ p, p < 16 → τ1 111 p = 0 ∨ τ1 111 p = 1) (hn1 : 1 ≤ n) (hn6 : n ≤ 6) (hp1 : τ1 103 13 = nI n) (hp2 : σ 13 0 = nI n) (hN : N ≤ 200) (back : ∀ (φ : Sg) (v : Int32), (∀ a, a ≠ 103 → a ≠ 108 → a ≠ 109 → a ≠ 110 → a ≠ 114 → φ a = τ1 a) → (∀ b, b ≠ 14 → b ≠ 37 → φ 103 b = τ1 103 b) → Ev (p_call (f_X11_passesAll 103 1 0 φ) (fun _ s => some (v, s))) (fun w ψ => w = v ∧ Ms τ ψ)) : ∀ (m j f g : Nat) (υ φ : Sg) (num : Nat), j + m = N → m < f → m < g → num ≤ j → EvR σ τ1 υ φ r c had num → ∃ v υ', f_X2_spend_b22 95 1 f (nI N) (nI num) (nI j) υ = some (v, υ') ∧ (∀ a, a < 95 ∨ 101 < a → υ' a = σ a) ∧ Ev (f_X11_evening_b53 103 g (nI N) had (nI j) φ) (fun w ψ => w = v ∧ Ms τ ψ)
  | 0, j, f, g, υ, φ, num, hm, hf, hg, hnum, hR => by
    obtain ⟨f', rfl⟩ : ∃ f', f = f' + 1 := ⟨f - 1, by omega⟩
    obtain ⟨g', rfl⟩ : ∃ g', g = g' + 1 := ⟨g - 1, by omega⟩
    obtain ⟨a1, a2, a3, a4, a5, a6, a7⟩ := hR
    have zφ : Sz φ 103 r c := by unfold Sz; rw [a3 11 (by decide) (by decide), a3 12 (by decide) (by decide)]; exact hzr
    have hj : j = N := by omega
    subst hj
    refine ⟨nI num, υ, ?_, a1, ?_⟩
    · rw [f_X2_spend_b22]
      simp (disch := omega) only [rdN, wrN, rdZ, wrZ, p_put_eq, call_some, nzN, boN, nI_1, nI_add, pk_mul, lit_4, lit_16, le_T, le_F, lt_T, lt_F, eq_T, eq_F, le_T0, le_F0, lt_F0, lt_T0, eq_T0, eq_F0, eqm_F, up_s2, up_n2, Ev_some, nz_0, nz_1, if_true, if_false, reduceIte, and_true, true_and, and_false, false_and, b2_0, b2_1, Bool.true_eq_false, Bool.false_eq_true, not_true_eq_false, not_false_eq_true]
    · rw [f_X11_evening_b53]
      simp (disch := omega) only [rdN, wrN, rdZ, wrZ, p_put_eq, call_some, nzN, boN, nI_1, nI_add, pk_mul, lit_4, lit_16, le_T, le_F, lt_T, lt_F, eq_T, eq_F, le_T0, le_F0, lt_F0, lt_T0, eq_T0, eq_F0, eqm_F, up_s2, up_n2, Ev_some, nz_0, nz_1, if_true, if_false, reduceIte, and_true, true_and, and_false, false_and, b2_0, b2_1, Bool.true_eq_false, Bool.false_eq_true, not_true_eq_false, not_false_eq_true, y_laidMany zφ]
      rw [show sm (fun q => b2 (flR (φ (103 + 5)) q)) 0 (r * c) = had + nI num from a7, show had + nI num - had = nI num by grind]
      exact back φ (nI num) a2 a3
  | m + 1, j, f, g, υ, φ, num, hm, hf, hg, hnum, hR => by
    obtain ⟨f', rfl⟩ : ∃ f', f = f' + 1 := ⟨f - 1, by omega⟩
    obtain ⟨g', rfl⟩ : ∃ g', g = g' + 1 := ⟨g - 1, by omega⟩
    have hrc := hz.rc
    have h1 := hz.r
    have h2 := hz.c
    have hpos : 4 ≤ r * c := Nat.mul_le_mul h1.1 h2.1
    obtain ⟨a1, a2, a3, a4, a5, a6, a7⟩ := hR
    -- the draws
    generalize hs1 : nxS (φ 103 37) = s1
    generalize hs2 : nxS s1 = s2
    generalize hs3 : nxS s2 = s3
    generalize hs4 : nxS s3 = s4
    have hw := dr_lt (s := s1) (m := n) hn1
    have hp := dr_lt (s := s2) (m := r * c) (by omega)
    have ht := dr_lt (s := s3) (m := 4) (by decide)
    have hq := dr_lt (s := s4) (m := r * c) (by omega)
    generalize hwv : drN s1 n = w at hw
    generalize hpv : drN s2 (r * c) = p at hp
    generalize htv : drN s3 4 = t at ht
    generalize hqv : drN s4 (r * c) = q at hq
    rw [f_X2_spend_b22, f_X11_evening_b53]
    -- the class's state after the draws
    have c13 : υ (1 + 12) 0 = nI n := by rw [a1 (1 + 12) (by decide)]; exact hp2
    have c2 : υ (1 + 1) 2 = nI (r * c) := by rw [a1 (1 + 1) (by decide)]; exact hz.n
    have dX : ∀ K : Int32 → Int32 → Int32 → Int32 → Sg → Rs, p_call (f_X2_draw 95 (υ (1 + 12) 0) υ) (fun v1 s2 => p_call (f_X2_draw 95 (s2 (1 + 1) 2) s2) (fun v3 s4 => p_call (f_X2_draw 95 4 s4) (fun v5 s6 => p_call (f_X2_draw 95 (s6 (1 + 1) 2) s6) (fun v7 s8 => K v1 v3 v5 v7 s8)))) = K (nI w) (nI p) (nI t) (nI q) (sg_up (sg_up (sg_up (sg_up υ 95 1 s1) 95 1 s2) 95 1 s3) 95 1 s4) := fun K => by
      rw [c13, x_draw hn1 (by omega), call_some, a4, hs1, hwv]
      rw [show sg_up υ 95 1 s1 (1 + 1) 2 = nI (r * c) by rw [up_a (by decide), c2], x_draw (by omega) (by omega), call_some, up_s2 ⟨rfl, rfl⟩, hs2, hpv]
      rw [lit_4, x_draw (by decide) (by decide), call_some, up_s2 ⟨rfl, rfl⟩, hs3, htv]
      rw [show sg_up (sg_up (sg_up υ 95 1 s1) 95 1 s2) 95 1 s3 (1 + 1) 2 = nI (r * c) by rw [up_a (by decide), up_a (by decide), up_a (by decide), c2], x_draw (by omega) (by omega), call_some, up_s2 ⟨rfl, rfl⟩, hs4, hqv]
    have d13 : φ 103 13 = nI n := by rw [a3 13 (by decide) (by decide)]; exact hp1
    have zφ : Sz φ 103 r c := by unfold Sz; rw [a3 11 (by decide) (by decide), a3 12 (by decide) (by decide)]; exact hzr
    have szu : ∀ (ψ : Sg) (v : Int32), Sz ψ 103 r c → Sz (sg_up ψ 103 37 v) 103 r c := fun ψ v h => by unfold Sz; rw [up_n2 (by decide), up_n2 (by decide)]; exact h
    have dM : ∀ K : Int32 → Int32 → Int32 → Int32 → Sg → Rs, p_call (f_X11_draw 103 (φ 103 13) φ) (fun v5 s6 => p_call (f_X11_cells 103 s6) (fun v7 s8 => p_call (f_X11_draw 103 v7 s8) (fun v9 s10 => p_call (f_X11_draw 103 4 s10) (fun v11 s12 => p_call (f_X11_cells 103 s12) (fun v13 s14 => p_call (f_X11_draw 103 v13 s14) (fun v15 s16 => K v5 v9 v11 v15 s16)))))) = K (nI w) (nI p) (nI t) (nI q) (sg_up (sg_up (sg_up (sg_up φ 103 37 s1) 103 37 s2) 103 37 s3) 103 37 s4) := fun K => by
      rw [d13, y_draw hn1 (by omega), call_some, hs1, hwv]
      rw [y_cells (szu _ _ zφ), call_some, y_draw (by omega) (by omega), call_some, up_s2 ⟨rfl, rfl⟩, hs2, hpv]
      rw [lit_4, y_draw (by decide) (by decide), call_some, up_s2 ⟨rfl, rfl⟩, hs3, htv]
      rw [y_cells (szu _ _ (szu _ _ (szu _ _ zφ))), call_some, y_draw (by omega) (by omega), call_some, up_s2 ⟨rfl, rfl⟩, hs4, hqv]
    rw [if_neg (nI_ge (by omega) (by omega)), if_neg (nI_ge (by omega) (by omega)), dX, dM]
    -- the relation after the draws
    have R1 : EvR σ τ1 (sg_up (sg_up (sg_up (sg_up υ 95 1 s1) 95 1 s2) 95 1 s3) 95 1 s4) (sg_up (sg_up (sg_up (sg_up φ 103 37 s1) 103 37 s2) 103 37 s3) 103 37 s4) r c had num := by
      refine ⟨fun a ha => ?_, fun a x1 x2 x3 x4 x5 => ?_, fun b x y => ?_, ?_, ?_, fun o ho => ?_, ?_⟩
      · simp (disch := omega) only [up_a]; exact a1 a ha
      · simp (disch := omega) only [up_a]; exact a2 a x1 x2 x3 x4 x5
      · simp (disch := omega) only [up_n2]; exact a3 b x y
      · simp (disch := omega) only [rdN, wrN, rdZ, wrZ, p_put_eq, call_some, nzN, boN, nI_1, nI_add, pk_mul, lit_4, lit_16, le_T, le_F, lt_T, lt_F, eq_T, eq_F, le_T0, le_F0, lt_F0, lt_T0, eq_T0, eq_F0, eqm_F, up_s2, up_n2, Ev_some, nz_0, nz_1, if_true, if_false, reduceIte, and_true, true_and, and_false, false_and, b2_0, b2_1, Bool.true_eq_false, Bool.false_eq_true, not_true_eq_false, not_false_eq_true]
      · simp (disch := decide) only [up_a]; exact a5
      · simp (disch := decide) only [up_a]; exact a6 o ho
      · simp (disch := decide) only [up_a]; exact a7
    clear dX dM hs1 hs2 hs3 hs4 hwv hpv htv hqv
    generalize sg_up (sg_up (sg_up (sg_up υ 95 1 s1) 95 1 s2) 95 1 s3) 95 1 s4 = υ1 at R1
    generalize sg_up (sg_up (sg_up (sg_up φ 103 37 s1) 103 37 s2) 103 37 s3) 103 37 s4 = φ1 at R1
    have R1' := R1
    obtain ⟨b1, b2', b3, b4, b5, b6, b7⟩ := R1
    have hq16 : q < 16 := by omega
    have hp16 : p < 16 := by omega
    have z1 : Sz φ1 103 r c := by unfold Sz; rw [b3 11 (by decide) (by decide), b3 12 (by decide) (by decide)]; exact hzr
    have hz1 : CutOk υ1 2 r c (τ1 105) (τ1 106) := hz.fr (fun j hj => b1 _ (by omega))
    have go := ev_run (had := had) hz hzr hl hn1 hn6 hp1 hp2 hN back m (j + 1) f' g'
    have bdm : Bd φ1 103 r c := fun o ho => by
      rcases b5 o (by omega) with w | ⟨-, p', t', hp', ht', w, w2⟩
      · exact .inl w
      · exact .inr ⟨⟨p', hp', w⟩, t', ht', w2⟩
    unfold f_X2_spend_b102 f_X2_spend_b103 f_X2_spend_b148 f_X11_evening_b138
    rw [show f_X0_isFilled (95 + 1) (nI q) υ1 = _ from x_isFilled (k := 96) hq16, call_some, rdN (by omega) (by decide)]
    have e97 : υ1 (96 + 1) q = φ1 108 q := (b6 q hq16).1
    rcases b5 q hq16 with wl | ⟨-, p9, t9, hp9, -, wl, -⟩
    · have ef : fl (υ1 (96 + 1)) q = false := by unfold fl; rw [e97, wl]; decide
      rw [ef, if_pos (by decide), show φ1 (103 + 5) q = -1 from wl, if_neg (show ¬ (0 : Int32) ≤ -1 by decide), show f_X0_isAway (95 + 1) (nI p) υ1 = _ from x_isAway (k := 96) hp16, call_some, y_isLaid z1, call_some]
      have ea : aw (υ1 (96 + 4)) (υ1 (96 + 5)) p = (laidB (φ1 108) (r * c) (nI p) || decide (τ1 111 p = 1)) := by
        unfold aw
        rw [show υ1 (96 + 4) p = _ from (b6 p hp16).2.2.1, show υ1 (96 + 5) p = _ from (b6 p hp16).2.2.2]
        rcases hl p hp16 with e | e <;> rw [e] <;> cases laidB (φ1 108) (r * c) (nI p) <;> decide
      rw [ea]
      show ∃ v υ', (if b2 (laidB (φ1 108) (r * c) (nI p) || decide (τ1 111 p = 1)) = 0 then _ else _) = some (v, υ') ∧ _ ∧ Ev (if b2 (laidB (φ1 108) (r * c) (nI p)) = 0 then _ else _) _
      cases hlaid : laidB (φ1 108) (r * c) (nI p) with
      | true =>
        rw [Bool.true_or, if_neg (show ¬ b2 true = 0 by decide), if_pos rfl, if_neg (show ¬ b2 true = 0 by decide), nI_1]
        exact go υ1 φ1 num (by omega) (by omega) (by omega) (by omega) R1'
      | false =>
        rw [Bool.false_or, if_pos (show b2 false = 0 from rfl), rdN (by omega) (by decide), show φ1 (103 + 8) p = τ1 111 p from congrFun (b2' 111 (by decide) (by decide) (by decide) (by decide) (by decide)) p]
        rcases hl p hp16 with ll | ll
        · rw [ll, if_pos (by decide), if_pos rfl, if_neg (by decide)]
          -- a try
          have bdx : BdX υ1 96 r c := fun o ho => by
            show υ1 97 o = -1 ∨ ((∃ p, p < r * c ∧ υ1 97 o = nI p) ∧ ∃ t, t < 4 ∧ υ1 98 o = nI t)
            rw [(b6 o (by omega)).1, (b6 o (by omega)).2.1]
            rcases b5 o (by omega) with w | ⟨-, p', t', hp', ht', w, w2⟩
            · exact .inl w
            · exact .inr ⟨⟨p', hp', w⟩, t', ht', w2⟩
          have e1 : f_X1_isFit (1 + 1) (95 + 1) (nI p) (nI t) (nI q) υ1 = some (b2 (fit (τ1 105) (τ1 106) (φ1 108) (φ1 109) r c p t q), υ1) := by
            have := x_isFit (k1 := 96) hz1 bdx hp ht hq
            rw [show fitX (τ1 105) (τ1 106) (υ1 (96 + 1)) (υ1 (96 + 2)) r c p t q = fit (τ1 105) (τ1 106) (φ1 108) (φ1 109) r c p t q from fit_free2 h1 h2 b5 (fun o ho => ⟨(b6 o ho).1, (b6 o ho).2.1⟩) hq hlaid] at this
            exact this
          have r105 : φ1 105 = τ1 105 := b2' 105 (by decide) (by decide) (by decide) (by decide) (by decide)
          have r106 : φ1 106 = τ1 106 := b2' 106 (by decide) (by decide) (by decide) (by decide) (by decide)
          have e2 : f_X11_kindAt 103 (nI p) (nI t) (nI q) φ1 = some (kindV (τ1 105) (τ1 106) (φ1 108) (φ1 109) r c p t q, φ1) := by
            have := y_kindAt z1 bdm hp ht hq
            rw [show φ1 (103 + 2) = τ1 105 from r105, show φ1 (103 + 3) = τ1 106 from r106] at this
            exact this
          have e3 := y_secondsOf z1 bdm (show w < 6 by omega) hp ht hq
          unfold f_X11_tries f_X11_tries_b50
          rw [e1, call_some, e2, call_some, rdN (by omega) (by decide), e3, call_some, wrN (by omega) (by decide), p_put_eq]
          generalize φ1 (103 + 11) w + secV (φ1 (103 + 9) w) (φ1 (103 + 10) w) (φ1 (103 + 4)) (φ1 (103 + 2)) (φ1 (103 + 3)) (φ1 (103 + 5)) (φ1 (103 + 6)) r c p t q = cost
          generalize sg_up φ1 (103 + 11) w cost 103 14 + 1 = tr
          have R2 : EvR σ τ1 υ1 (sg_up (sg_up φ1 (103 + 11) w cost) 103 14 tr) r c had num := by
            refine ⟨b1, fun a x1 x2 x3 x4 x5 => ?_, fun b x y => ?_, ?_, ?_, fun o ho => ?_, ?_⟩
            · rw [up_a x1, up_a x5]; exact b2' a x1 x2 x3 x4 x5
            · rw [up_n2 (by omega), up_n2 (by omega)]; exact b3 b x y
            · rw [up_n2 (by omega), up_n2 (by omega)]; exact b4
            · simp (disch := decide) only [up_a]; exact b5
            · simp (disch := decide) only [up_a]; exact b6 o ho
            · simp (disch := decide) only [up_a]; exact b7
          have e8 : sg_up (sg_up φ1 (103 + 11) w cost) 103 14 tr 108 = φ1 108 := by simp (disch := decide) only [up_a]
          have e9 : sg_up (sg_up φ1 (103 + 11) w cost) 103 14 tr 109 = φ1 109 := by simp (disch := decide) only [up_a]
          generalize sg_up (sg_up φ1 (103 + 11) w cost) 103 14 tr = φ2 at R2 e8 e9
          cases hfit : fit (τ1 105) (τ1 106) (φ1 108) (φ1 109) r c p t q with
          | false =>
            have k12 := kindV_12 (ri := τ1 105) (dn := τ1 106) (pc := φ1 108) (tn := φ1 109) (r := r) (c := c) (p := p) (t := t) (q := q)
            rw [hfit] at k12
            have k1 : ¬ kindV (τ1 105) (τ1 106) (φ1 108) (φ1 109) r c p t q = 1 := fun u => absurd (k12.mp (.inl u)) (by decide)
            have k2 : ¬ kindV (τ1 105) (τ1 106) (φ1 108) (φ1 109) r c p t q = 2 := fun u => absurd (k12.mp (.inr u)) (by decide)
            rw [if_pos (show b2 false = 0 from rfl), if_neg k1, if_neg k2, call_some, nI_1]
            exact go υ1 φ2 num (by omega) (by omega) (by omega) (by omega) R2
          | true =>
            have k12 := (kindV_12 (ri := τ1 105) (dn := τ1 106) (pc := φ1 108) (tn := φ1 109) (r := r) (c := c) (p := p) (t := t) (q := q)).mpr hfit
            have put1 : ∀ v : Int32, p_wr φ2 (103 + 5) 16 (nI q) (nI p) (fun s1 => p_wr s1 (103 + 6) 16 (nI q) (nI t) (fun s2 => p_wr s2 (103 + 7) 16 (nI q) (nI w) (fun s3 => some (v, s3)))) = some (v, sg_up (sg_up (sg_up φ2 108 q (nI p)) 109 q (nI t)) 110 q (nI w)) := fun v => by
              rw [wrN (by omega) (by decide), wrN (by omega) (by decide), wrN (by omega) (by decide)]
            have eref : ∀ K : Int32 → Sg → Rs, (∀ v s, K v s = K 0 s) → p_call (if kindV (τ1 105) (τ1 106) (φ1 108) (φ1 109) r c p t q = 1 then p_wr φ2 (103 + 5) 16 (nI q) (nI p) (fun s1 => p_wr s1 (103 + 6) 16 (nI q) (nI t) (fun s2 => p_wr s2 (103 + 7) 16 (nI q) (nI w) (fun s3 => some (kindV (τ1 105) (τ1 106) (φ1 108) (φ1 109) r c p t q, s3)))) else if kindV (τ1 105) (τ1 106) (φ1 108) (φ1 109) r c p t q = 2 then p_wr φ2 (103 + 5) 16 (nI q) (nI p) (fun s1 => p_wr s1 (103 + 6) 16 (nI q) (nI t) (fun s2 => p_wr s2 (103 + 7) 16 (nI q) (nI w) (fun s3 => some (kindV (τ1 105) (τ1 106) (φ1 108) (φ1 109) r c p t q, s3)))) else some (kindV (τ1 105) (τ1 106) (φ1 108) (φ1 109) r c p t q, φ2)) K = K 0 (sg_up (sg_up (sg_up φ2 108 q (nI p)) 109 q (nI t)) 110 q (nI w)) := fun K hK => by
              rw [put1]
              rcases k12 with k | k
              · rw [if_pos k, call_some, hK]
              · by_cases k1 : kindV (τ1 105) (τ1 106) (φ1 108) (φ1 109) r c p t q = 1
                · rw [if_pos k1, call_some, hK]
                · rw [if_neg k1, if_pos k, call_some, hK]
            rw [eref _ (fun _ _ => rfl), if_neg (show ¬ b2 true = 0 by decide), show f_X0_put (95 + 1) (nI q) (nI p) (nI t) (nI w) υ1 = _ from x_put (k := 96) hq16 hp16, call_some, nI_1, nI_1]
            obtain ⟨d1, d2, d3, d4, d5, d6, d7⟩ := R2
            rw [e8] at d5 d6 d7
            rw [e9] at d5 d6
            refine go _ _ (num + 1) (by omega) (by omega) (by omega) (by omega) ⟨fun a ha => ?_, fun a x1 x2 x3 x4 x5 => ?_, fun b x y => ?_, ?_, ?_, fun o ho => ?_, ?_⟩
            · simp (disch := omega) only [up_a]; exact d1 a ha
            · rw [up_a x4, up_a x3, up_a x2]; exact d2 a x1 x2 x3 x4 x5
            · simp (disch := omega) only [up_n2]; exact d3 b x y
            · simp (disch := omega) only [up_n2]; exact d4
            · have u8 : sg_up (sg_up (sg_up φ2 108 q (nI p)) 109 q (nI t)) 110 q (nI w) 108 = ut (φ1 108) q (nI p) := by rw [up_a (by decide), up_a (by decide), up_ut, e8]
              have u9 : sg_up (sg_up (sg_up φ2 108 q (nI p)) 109 q (nI t)) 110 q (nI w) 109 = ut (φ1 109) q (nI t) := by rw [up_a (by decide), up_ut, up_a (by decide), e9]
              rw [u8, u9]
              exact d5.put hq hp ht
            · have u8 : sg_up (sg_up (sg_up φ2 108 q (nI p)) 109 q (nI t)) 110 q (nI w) 108 = ut (φ1 108) q (nI p) := by rw [up_a (by decide), up_a (by decide), up_ut, e8]
              have u9 : sg_up (sg_up (sg_up φ2 108 q (nI p)) 109 q (nI t)) 110 q (nI w) 109 = ut (φ1 109) q (nI t) := by rw [up_a (by decide), up_ut, up_a (by decide), e9]
              rw [u8, u9, laid_put hq hrc hp16 ho wl]
              obtain ⟨v1, v2, v3, v4⟩ := d6 o ho
              by_cases x : o = q
              · subst x
                refine ⟨by simp (disch := omega) only [rdN, wrN, rdZ, wrZ, p_put_eq, call_some, nzN, boN, nI_1, nI_add, pk_mul, lit_4, lit_16, le_T, le_F, lt_T, lt_F, eq_T, eq_F, le_T0, le_F0, lt_F0, lt_T0, eq_T0, eq_F0, eqm_F, up_s2, up_n2, Ev_some, nz_0, nz_1, if_true, if_false, reduceIte, and_true, true_and, and_false, false_and, b2_0, b2_1, Bool.true_eq_false, Bool.false_eq_true, not_true_eq_false, not_false_eq_true, ut_s], by simp (disch := omega) only [rdN, wrN, rdZ, wrZ, p_put_eq, call_some, nzN, boN, nI_1, nI_add, pk_mul, lit_4, lit_16, le_T, le_F, lt_T, lt_F, eq_T, eq_F, le_T0, le_F0, lt_F0, lt_T0, eq_T0, eq_F0, eqm_F, up_s2, up_n2, Ev_some, nz_0, nz_1, if_true, if_false, reduceIte, and_true, true_and, and_false, false_and, b2_0, b2_1, Bool.true_eq_false, Bool.false_eq_true, not_true_eq_false, not_false_eq_true, ut_s], ?_, by simp (disch := omega) only [rdN, wrN, rdZ, wrZ, p_put_eq, call_some, nzN, boN, nI_1, nI_add, pk_mul, lit_4, lit_16, le_T, le_F, lt_T, lt_F, eq_T, eq_F, le_T0, le_F0, lt_F0, lt_T0, eq_T0, eq_F0, eqm_F, up_s2, up_n2, Ev_some, nz_0, nz_1, if_true, if_false, reduceIte, and_true, true_and, and_false, false_and, b2_0, b2_1, Bool.true_eq_false, Bool.false_eq_true, not_true_eq_false, not_false_eq_true, v4]⟩
                by_cases y : o = p
                · simp (disch := omega) only [rdN, wrN, rdZ, wrZ, p_put_eq, call_some, nzN, boN, nI_1, nI_add, pk_mul, lit_4, lit_16, le_T, le_F, lt_T, lt_F, eq_T, eq_F, le_T0, le_F0, lt_F0, lt_T0, eq_T0, eq_F0, eqm_F, up_s2, up_n2, Ev_some, nz_0, nz_1, if_true, if_false, reduceIte, and_true, true_and, and_false, false_and, b2_0, b2_1, Bool.true_eq_false, Bool.false_eq_true, not_true_eq_false, not_false_eq_true, y]
                  simp [b2]
                · simp (disch := omega) only [rdN, wrN, rdZ, wrZ, p_put_eq, call_some, nzN, boN, nI_1, nI_add, pk_mul, lit_4, lit_16, le_T, le_F, lt_T, lt_F, eq_T, eq_F, le_T0, le_F0, lt_F0, lt_T0, eq_T0, eq_F0, eqm_F, up_s2, up_n2, Ev_some, nz_0, nz_1, if_true, if_false, reduceIte, and_true, true_and, and_false, false_and, b2_0, b2_1, Bool.true_eq_false, Bool.false_eq_true, not_true_eq_false, not_false_eq_true, v3]
                  simp [y]
              · refine ⟨by simp (disch := omega) only [rdN, wrN, rdZ, wrZ, p_put_eq, call_some, nzN, boN, nI_1, nI_add, pk_mul, lit_4, lit_16, le_T, le_F, lt_T, lt_F, eq_T, eq_F, le_T0, le_F0, lt_F0, lt_T0, eq_T0, eq_F0, eqm_F, up_s2, up_n2, Ev_some, nz_0, nz_1, if_true, if_false, reduceIte, and_true, true_and, and_false, false_and, b2_0, b2_1, Bool.true_eq_false, Bool.false_eq_true, not_true_eq_false, not_false_eq_true, ut_n x, v1], by simp (disch := omega) only [rdN, wrN, rdZ, wrZ, p_put_eq, call_some, nzN, boN, nI_1, nI_add, pk_mul, lit_4, lit_16, le_T, le_F, lt_T, lt_F, eq_T, eq_F, le_T0, le_F0, lt_F0, lt_T0, eq_T0, eq_F0, eqm_F, up_s2, up_n2, Ev_some, nz_0, nz_1, if_true, if_false, reduceIte, and_true, true_and, and_false, false_and, b2_0, b2_1, Bool.true_eq_false, Bool.false_eq_true, not_true_eq_false, not_false_eq_true, ut_n x, v2], ?_, by simp (disch := omega) only [rdN, wrN, rdZ, wrZ, p_put_eq, call_some, nzN, boN, nI_1, nI_add, pk_mul, lit_4, lit_16, le_T, le_F, lt_T, lt_F, eq_T, eq_F, le_T0, le_F0, lt_F0, lt_T0, eq_T0, eq_F0, eqm_F, up_s2, up_n2, Ev_some, nz_0, nz_1, if_true, if_false, reduceIte, and_true, true_and, and_false, false_and, b2_0, b2_1, Bool.true_eq_false, Bool.false_eq_true, not_true_eq_false, not_false_eq_true, v4]⟩
                by_cases y : o = p
                · simp (disch := omega) only [rdN, wrN, rdZ, wrZ, p_put_eq, call_some, nzN, boN, nI_1, nI_add, pk_mul, lit_4, lit_16, le_T, le_F, lt_T, lt_F, eq_T, eq_F, le_T0, le_F0, lt_F0, lt_T0, eq_T0, eq_F0, eqm_F, up_s2, up_n2, Ev_some, nz_0, nz_1, if_true, if_false, reduceIte, and_true, true_and, and_false, false_and, b2_0, b2_1, Bool.true_eq_false, Bool.false_eq_true, not_true_eq_false, not_false_eq_true, y]
                  simp [b2]
                · simp (disch := omega) only [rdN, wrN, rdZ, wrZ, p_put_eq, call_some, nzN, boN, nI_1, nI_add, pk_mul, lit_4, lit_16, le_T, le_F, lt_T, lt_F, eq_T, eq_F, le_T0, le_F0, lt_F0, lt_T0, eq_T0, eq_F0, eqm_F, up_s2, up_n2, Ev_some, nz_0, nz_1, if_true, if_false, reduceIte, and_true, true_and, and_false, false_and, b2_0, b2_1, Bool.true_eq_false, Bool.false_eq_true, not_true_eq_false, not_false_eq_true, v3]
                  simp [y]
            · have u8 : sg_up (sg_up (sg_up φ2 108 q (nI p)) 109 q (nI t)) 110 q (nI w) 108 = ut (φ1 108) q (nI p) := by rw [up_a (by decide), up_a (by decide), up_ut, e8]
              rw [u8, laid_cnt hq hp16 wl, d7, Int32.add_assoc, nI_1]
        · rw [ll, if_neg (show ¬ b2 (decide ((1 : Int32) = 1)) = 0 by decide), if_pos rfl, if_neg (show ¬ (1 : Int32) = 0 by decide), nI_1]
          exact go υ1 φ1 num (by omega) (by omega) (by omega) (by omega) R1'
    · have ef : fl (υ1 (96 + 1)) q = true := by unfold fl; rw [e97, wl, decide_eq_false (nI_nm1 (by omega))]; rfl
      rw [ef, if_neg (by decide), if_pos rfl, show φ1 (103 + 5) q = nI p9 from wl, if_pos (nI_pos' (by omega)), nI_1]
      exact go υ1 φ1 num (by omega) (by omega) (by omega) (by omega) R1'
theorem r_evening {x y : Int32} (h : Inv i σ τ) : Rl i (f_X10_evening 0 x y σ) (f_X11_evening 103 x y τ) := by
  have N4 : Rl i (p_call (f_X10_refuse 0 (-4) σ) (fun v s => some (v, s))) (p_call (f_X11_no 103 (-4) τ) (fun v s => some (v, s))) := r_no h (by decide) n4
  have N6 : Rl i (p_call (f_X10_refuse 0 (-6) σ) (fun v s => some (v, s))) (p_call (f_X11_no 103 (-6) τ) (fun v s => some (v, s))) := r_no h (by decide) n6
  have N3 : Rl i (p_call (f_X10_refuse 0 (-3) σ) (fun v s => some (v, s))) (p_call (f_X11_no 103 (-3) τ) (fun v s => some (v, s))) := r_no h (by decide) n3
  obtain ⟨⟨r, c, g1, g2, g3⟩, -⟩ := id h
  have hrc := g1.rc
  obtain ⟨n, m6, e1, e2, e3⟩ := people g1 g2
  unfold f_X10_evening f_X11_evening f_X11_evening_b23
  rw [y_bound, call_some, show σ (0 + 1 + 12) 0 = nI n from e2, e1]
  by_cases x1 : 1 ≤ x
  · rw [if_pos x1, if_pos x1]
    by_cases x2 : x ≤ 200
    · rw [if_pos x2, if_pos x2, if_pos rfl, if_pos rfl, if_neg (show ¬ (-3 : Int32) = 0 by decide)]
      rcases Nat.eq_zero_or_pos n with hn | hn
      · rw [hn, if_pos (show nI 0 = 0 from rfl), if_pos (show nI 0 = 0 from rfl)]
        exact N3
      · rw [if_neg (nI_ne0 hn (by omega)), if_neg (nI_ne0 hn (by omega))]
        have hx : inB 201 x = true := by
          unfold inB
          rw [decide_eq_true (Int32.le_trans (by decide) x1), decide_eq_true (cast (le_lt 200 (by decide)) x2)]
          rfl
        obtain ⟨N, hN, rfl⟩ := inB_of (by decide) hx
        -- the class begins
        unfold f_X2_spend
        rw [p_put_eq]
        have BB : BoB (sg_up σ 95 1 y) 7 := by
          unfold BoB
          rw [up_a (by decide), up_a (by decide)]
          exact g2.bob g1
        obtain ⟨_, υ, k1, f1, f2⟩ := x_copyB (σ := sg_up σ 95 1 y) (k := 96) (k1 := 7) (by decide) BB
        rw [show f_X0_copyFrom (0 + 95 + 1) (0 + 1 + 6) (sg_up σ (0 + 95) 1 y) = _ from k1, call_some]
        -- the reference begins
        obtain ⟨_, τ1, k2, K⟩ := y_keepAll (τ := τ) (k := 103) (w := 1) (by decide)
        rw [show f_X11_passesAll 103 1 1 τ = _ from k2, call_some]
        have q : ∀ a, a ≠ 103 → a ≠ 121 → τ1 a = τ a := fun a u v => by rw [K.1 a u v, up_a u, up_a u]
        have q2 : ∀ b, b ≠ 26 → b ≠ 27 → τ1 103 b = τ 103 b := fun b u v => by rw [K.2.1 b v, up_n2 (by omega), up_n2 (by omega)]
        have z1 : Sz τ1 103 r c := by unfold Sz; rw [q2 11 (by decide) (by decide), q2 12 (by decide) (by decide)]; exact g1.sz
        rw [y_laidMany z1, call_some, p_put_eq]
        have hz : CutOk σ 2 r c (τ1 105) (τ1 106) := by rw [q 105 (by decide) (by decide), q 106 (by decide) (by decide)]; exact g2.1
        have R : EvR σ τ1 υ (sg_up τ1 103 37 y) r c (sm (fun o => b2 (flR (τ1 (103 + 5)) o)) 0 (r * c)) 0 := by
          refine ⟨fun a ha => ?_, fun a x1 x2 x3 x4 x5 => up_a x1, fun b x y => up_n2 (by omega), ?_, ?_, fun o ho => ?_, ?_⟩
          · rw [f1 a (by omega), up_a (by omega)]
          · rw [f1 95 (by decide)]; simp (disch := omega) only [rdN, wrN, rdZ, wrZ, p_put_eq, call_some, nzN, boN, nI_1, nI_add, pk_mul, lit_4, lit_16, le_T, le_F, lt_T, lt_F, eq_T, eq_F, le_T0, le_F0, lt_F0, lt_T0, eq_T0, eq_F0, eqm_F, up_s2, up_n2, Ev_some, nz_0, nz_1, if_true, if_false, reduceIte, and_true, true_and, and_false, false_and, b2_0, b2_1, Bool.true_eq_false, Bool.false_eq_true, not_true_eq_false, not_false_eq_true]
          · rw [up_a (by decide), up_a (by decide), q 108 (by decide) (by decide), q 109 (by decide) (by decide)]
            exact g1.2.2.1
          · obtain ⟨u1, u2, -, u4, u5⟩ := f2 o ho
            obtain ⟨v1, v2, -, v4, v5⟩ := g2.2.2.2.1 o ho
            rw [up_a (by decide), up_a (by decide), q 108 (by decide) (by decide), q 109 (by decide) (by decide), q 111 (by decide) (by decide)]
            have s7 : ∀ j, sg_up σ 95 1 y (7 + j) = σ (7 + j) ∨ 7 + j = 95 := fun j => by
              by_cases e : 7 + j = 95
              · exact .inr e
              · exact .inl (up_a e)
            refine ⟨?_, ?_, ?_, ?_⟩
            · exact (u1.trans (congrFun ((s7 1).resolve_right (by decide)) o)).trans v1
            · exact (u2.trans (congrFun ((s7 2).resolve_right (by decide)) o)).trans v2
            · exact (u4.trans (congrFun ((s7 4).resolve_right (by decide)) o)).trans v4
            · exact (u5.trans (congrFun ((s7 5).resolve_right (by decide)) o)).trans v5
          · rw [up_a (by decide)]
            exact (Int32.add_zero _).symm
        have back : ∀ (φ : Sg) (v : Int32), (∀ a, a ≠ 103 → a ≠ 108 → a ≠ 109 → a ≠ 110 → a ≠ 114 → φ a = τ1 a) → (∀ b, b ≠ 14 → b ≠ 37 → φ 103 b = τ1 103 b) → Ev (p_call (f_X11_passesAll 103 1 0 φ) (fun _ s => some (v, s))) (fun w ψ => w = v ∧ Ms τ ψ) := fun φ v a1 a2 => by
          refine Ev.call (show Ev (f_X11_passesAll 103 (nI 1) 0 φ) _ from y_backAll (by decide)) (fun _ ψ k3 => ?_)
          rw [Ev_some]
          refine ⟨rfl, FRs.ms (E := fun _ => false) (D := fun b => decide (b = 37)) (kept_back K (fun x y z w => ?_) ?_ (fun b' x y z w => ?_) k3) (by decide) (by decide)⟩
          · exact a1 x y (by omega) (by omega) (by omega) (by omega)
          · exact a1 _ (by decide) (by decide) (by decide) (by decide) (by decide)
          · exact a2 b' (by omega) (of_decide_eq_false w)
        obtain ⟨v, υ', w1, w2, w3⟩ := ev_run (τ := τ) (N := N) hz z1 (fun p hp => by rw [q 111 (by decide) (by decide)]; exact lost01 g1 hp) hn m6 (by rw [q2 13 (by decide) (by decide)]; exact e1) e2 (by omega) back N 0 fu fu υ (sg_up τ1 103 37 y) 0 (by omega) (by unfold fu; omega) (by unfold fu; omega) (Nat.le_refl _) R
        obtain ⟨v', ψ, w4, w5, w6⟩ := w3
        rw [show f_X2_spend_b22 (0 + 95) (0 + 1) fu (nI N) 0 0 υ = _ from w1, call_some, show f_X11_evening_b53 103 fu (nI N) (sm (fun q => b2 (flR (τ1 (103 + 5)) q)) 0 (r * c)) 0 (sg_up τ1 103 37 y) = _ from w4, w5]
        exact Rl.of rfl rfl (h.sc (fun a x y z w => w2 a (by omega)) w6)
    · rw [if_neg x2, if_neg x2, if_neg (show ¬ (-6 : Int32) = 0 by decide), if_neg (show ¬ (-6 : Int32) = 0 by decide)]
      exact N6
  · rw [if_neg x1, if_neg x1, if_neg (show ¬ (-4 : Int32) = 0 by decide), if_neg (show ¬ (-4 : Int32) = 0 by decide)]
    exact N4
end RL2
