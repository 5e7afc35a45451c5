/-! mine: least terms -/
/-- enough steps for a number below 2 ^ k -/
theorem x_gcd {σ : Sg} : ∀ (k a b f s : Nat), a < 2 ^ k → b < 2 ^ 30 → a < 2 ^ 30 → s + 2 * k + 1 ≤ 100 → 2 * k + 2 ≤ f → 0 < b → f_X4_commonDivisor_b7 f (nI a) (nI b) (nI s) σ = some (nI (Nat.gcd a b), σ)
  | 0, a, b, f, s, h1, h2, h3, h4, h5, h6 => by
    have : a = 0 := by omega
    subst this
    obtain ⟨f', rfl⟩ : ∃ f', f = f' + 1 := ⟨f - 1, by omega⟩
    rw [f_X4_commonDivisor_b7, show (100 : Int32) = nI 100 from rfl]
    simp (disch := omega) only [rdN, wrN, rdZ, wrZ, p_put_eq, call_some, nzN, boN, nI_1, nI_add, pk_mul, lit_4, lit_16, le_T, le_F, lt_T, lt_F, eq_T, eq_F, le_T0, le_F0, lt_F0, lt_T0, eq_T0, eq_F0, eqm_F, up_s2, up_n2, Ev_some, nz_0, nz_1, if_true, if_false, reduceIte, and_true, true_and, and_false, false_and, b2_0, b2_1, Bool.true_eq_false, Bool.false_eq_true, not_true_eq_false, not_false_eq_true]
    rw [Nat.gcd_zero_left]
  | k + 1, a, b, f, s, h1, h2, h3, h4, h5, h6 => by
    obtain ⟨f', rfl⟩ : ∃ f', f = f' + 1 + 1 := ⟨f - 2, by omega⟩
    rw [f_X4_commonDivisor_b7, show (100 : Int32) = nI 100 from rfl]
    rcases Nat.eq_zero_or_pos a with rfl | ha
    · simp (disch := omega) only [rdN, wrN, rdZ, wrZ, p_put_eq, call_some, nzN, boN, nI_1, nI_add, pk_mul, lit_4, lit_16, le_T, le_F, lt_T, lt_F, eq_T, eq_F, le_T0, le_F0, lt_F0, lt_T0, eq_T0, eq_F0, eqm_F, up_s2, up_n2, Ev_some, nz_0, nz_1, if_true, if_false, reduceIte, and_true, true_and, and_false, false_and, b2_0, b2_1, Bool.true_eq_false, Bool.false_eq_true, not_true_eq_false, not_false_eq_true]
      rw [Nat.gcd_zero_left]
    · have e1 : nI b - nI b / nI a * nI a = nI (b % a) := pk_rem (by omega) ha (by omega)
      have l1 : b % a < a := Nat.mod_lt _ ha
      rw [if_neg (nI_ge (by omega) (by omega)), if_neg (nI_ne0 ha (by omega)), nzN ha (by omega), e1, nI_1, f_X4_commonDivisor_b7, show (100 : Int32) = nI 100 from rfl, if_neg (nI_ge (by omega) (by omega))]
      rcases Nat.eq_zero_or_pos (b % a) with h0 | hb
      · rw [h0, if_pos (show nI 0 = 0 from rfl), Nat.gcd_rec, h0, Nat.gcd_zero_left]
      · have e2 : nI a - nI a / nI (b % a) * nI (b % a) = nI (a % (b % a)) := pk_rem (by omega) hb (by omega)
        have l2 : a % (b % a) < b % a := Nat.mod_lt _ hb
        have l3 : a % (b % a) < 2 ^ k := by
          have : a % (b % a) + b % a ≤ a := by
            have := Nat.div_add_mod a (b % a)
            have hq : 1 ≤ a / (b % a) := (Nat.one_le_div_iff hb).mpr (by omega)
            have hm : b % a * 1 ≤ b % a * (a / (b % a)) := Nat.mul_le_mul_left _ hq
            omega
          have hp : 2 ^ (k + 1) = 2 * 2 ^ k := by rw [Nat.pow_succ, Nat.mul_comm]
          omega
        rw [if_neg (nI_ne0 hb (by omega)), nzN hb (by omega), e2, nI_1, x_gcd k (a % (b % a)) (b % a) f' (s + 1 + 1) l3 (by omega) (by omega) (by omega) (by omega) hb, Nat.gcd_rec a b, Nat.gcd_rec (b % a) a]
theorem y_gcd {σ : Sg} : ∀ (f a b : Nat), b < f → a < 2 ^ 30 → b < 2 ^ 30 → f_X11_divisor_b4 f (nI a) (nI b) σ = some (nI (Nat.gcd b a), σ)
  | 0, _, _, h, _, _ => absurd h (Nat.not_lt_zero _)
  | f + 1, a, b, h, ha, hb => by
    rw [f_X11_divisor_b4]
    rcases Nat.eq_zero_or_pos b with rfl | h0
    · simp (disch := omega) only [rdN, wrN, rdZ, wrZ, p_put_eq, call_some, nzN, boN, nI_1, nI_add, pk_mul, lit_4, lit_16, le_T, le_F, lt_T, lt_F, eq_T, eq_F, le_T0, le_F0, lt_F0, lt_T0, eq_T0, eq_F0, eqm_F, up_s2, up_n2, Ev_some, nz_0, nz_1, if_true, if_false, reduceIte, and_true, true_and, and_false, false_and, b2_0, b2_1, Bool.true_eq_false, Bool.false_eq_true, not_true_eq_false, not_false_eq_true]
      rw [Nat.gcd_zero_left]
    · have e1 : nI a - nI a / nI b * nI b = nI (a % b) := pk_rem (by omega) h0 (by omega)
      have l1 : a % b < b := Nat.mod_lt _ h0
      rw [if_neg (nI_ne0 h0 (by omega)), nzN h0 (by omega), e1, y_gcd f b (a % b) (by omega) (by omega) (by omega), Nat.gcd_rec b a]
/-- a sum of numbers up to B -/
theorem sm_nat {g : Nat → Int32} {B : Nat} : ∀ (n i : Nat), (∀ j, i ≤ j → j < i + n → ∃ x, x ≤ B ∧ g j = nI x) → ∃ S, S ≤ B * n ∧ sm g i n = nI S ∧ ∀ j, i ≤ j → j < i + n → ∀ x, x < 2 ^ 31 → g j = nI x → x ≤ S
  | 0, i, _ => ⟨0, Nat.zero_le _, rfl, fun j a b => by omega⟩
  | n + 1, i, h => by
    obtain ⟨x, hx, ex⟩ := h i (by omega) (by omega)
    obtain ⟨S, s1, s2, s3⟩ := sm_nat n (i + 1) (fun j a b => h j (by omega) (by omega))
    refine ⟨x + S, by rw [Nat.mul_succ]; omega, by rw [sm, ex, s2, nI_add], fun j a b y hy ey => ?_⟩
    rcases Nat.lt_or_ge i j with q | q
    · have := s3 j (by omega) (by omega) y hy ey
      omega
    · have : j = i := by omega
      subst this
      rcases Nat.lt_or_ge x (2 ^ 31) with z | z
      · have := (nI_eq hy z).mp (ey.symm.trans ex)
        omega
      · omega
section RK
variable {i : Nat} {σ τ : Sg}
theorem r_mine {x y : Int32} (hi : i ≤ 100) (h : Inv i σ τ) : Rl i (f_X10_mine 0 x y σ) (f_X11_mine 103 x y τ) := by
  obtain ⟨⟨r, c, g1, g2, g3⟩, -⟩ := id h
  have hrc := g1.rc
  obtain ⟨n, m6, e1, e2, e3⟩ := people g1 g2
  unfold f_X10_mine f_X11_mine f_X10_mine_b23
  simp (disch := omega) only [rdN, wrN, rdZ, wrZ, p_put_eq, call_some, nzN, boN, nI_1, nI_add, pk_mul, lit_4, lit_16, le_T, le_F, lt_T, lt_F, eq_T, eq_F, le_T0, le_F0, lt_F0, lt_T0, eq_T0, eq_F0, eqm_F, up_s2, up_n2, Ev_some, nz_0, nz_1, if_true, if_false, reduceIte, and_true, true_and, and_false, false_and, b2_0, b2_1, Bool.true_eq_false, Bool.false_eq_true, not_true_eq_false, not_false_eq_true, w_isPerson e2, v_isPerson e1, v_two]
  cases hx : inB n x with
  | false => simp (disch := omega) only [rdN, wrN, rdZ, wrZ, p_put_eq, call_some, nzN, boN, nI_1, nI_add, pk_mul, lit_4, lit_16, le_T, le_F, lt_T, lt_F, eq_T, eq_F, le_T0, le_F0, lt_F0, lt_T0, eq_T0, eq_F0, eqm_F, up_s2, up_n2, Ev_some, nz_0, nz_1, if_true, if_false, reduceIte, and_true, true_and, and_false, false_and, b2_0, b2_1, Bool.true_eq_false, Bool.false_eq_true, not_true_eq_false, not_false_eq_true]; exact r_no h (by decide) n1
  | true =>
    simp (disch := omega) only [rdN, wrN, rdZ, wrZ, p_put_eq, call_some, nzN, boN, nI_1, nI_add, pk_mul, lit_4, lit_16, le_T, le_F, lt_T, lt_F, eq_T, eq_F, le_T0, le_F0, lt_F0, lt_T0, eq_T0, eq_F0, eqm_F, up_s2, up_n2, Ev_some, nz_0, nz_1, if_true, if_false, reduceIte, and_true, true_and, and_false, false_and, b2_0, b2_1, Bool.true_eq_false, Bool.false_eq_true, not_true_eq_false, not_false_eq_true]
    rw [x_two2]
    cases hy : inB 2 y with
    | false => simp (disch := omega) only [rdN, wrN, rdZ, wrZ, p_put_eq, call_some, nzN, boN, nI_1, nI_add, pk_mul, lit_4, lit_16, le_T, le_F, lt_T, lt_F, eq_T, eq_F, le_T0, le_F0, lt_F0, lt_T0, eq_T0, eq_F0, eqm_F, up_s2, up_n2, Ev_some, nz_0, nz_1, if_true, if_false, reduceIte, and_true, true_and, and_false, false_and, b2_0, b2_1, Bool.true_eq_false, Bool.false_eq_true, not_true_eq_false, not_false_eq_true]; exact r_no h (by decide) n2
    | true =>
      simp (disch := omega) only [rdN, wrN, rdZ, wrZ, p_put_eq, call_some, nzN, boN, nI_1, nI_add, pk_mul, lit_4, lit_16, le_T, le_F, lt_T, lt_F, eq_T, eq_F, le_T0, le_F0, lt_F0, lt_T0, eq_T0, eq_F0, eqm_F, up_s2, up_n2, Ev_some, nz_0, nz_1, if_true, if_false, reduceIte, and_true, true_and, and_false, false_and, b2_0, b2_1, Bool.true_eq_false, Bool.false_eq_true, not_true_eq_false, not_false_eq_true]
      obtain ⟨w, hw, rfl⟩ := inB_of (by omega) hx
      obtain ⟨p, hp, rfl⟩ := inB_of (by decide) hy
      have sp : ∀ w, w < 6 → σ 16 w = τ 114 w := fun w hw => (g2.2.2.2.2.2 w hw).2.2
      obtain ⟨S, s1, s2, s3⟩ := sm_nat (g := τ 114) (B := 60 * i) n 0 (fun j _ hj => (e3 j (by omega)).2.2)
      obtain ⟨s, t1, t2⟩ := (e3 w hw).2.2
      have hsS : s ≤ S := s3 w (Nat.zero_le _) (by omega) s (by omega) t2
      have hn6 : 60 * i * n ≤ 36000 := by
        have : 60 * i * n ≤ 6000 * 6 := Nat.mul_le_mul (by omega) m6
        omega
      -- the sums
      have eX : f_X4_spentByAll (0 + 1 + 12) σ = some (nI S, σ) := by
        have := lp_sm (L := fun f j a => f_X4_spentByAll_b4 13 f a (nI j) σ) (m := n) (g := τ 114) (E := fun a => some (a, σ)) (fun f a => by
          show f_X4_spentByAll_b4 13 (f + 1) a (nI n) σ = _
          rw [f_X4_spentByAll_b4, e2]
          simp (disch := omega) only [rdN, wrN, rdZ, wrZ, p_put_eq, call_some, nzN, boN, nI_1, nI_add, pk_mul, lit_4, lit_16, le_T, le_F, lt_T, lt_F, eq_T, eq_F, le_T0, le_F0, lt_F0, lt_T0, eq_T0, eq_F0, eqm_F, up_s2, up_n2, Ev_some, nz_0, nz_1, if_true, if_false, reduceIte, and_true, true_and, and_false, false_and, b2_0, b2_1, Bool.true_eq_false, Bool.false_eq_true, not_true_eq_false, not_false_eq_true]) (fun f j a hj => by
          show f_X4_spentByAll_b4 13 (f + 1) a (nI j) σ = f_X4_spentByAll_b4 13 f (a + τ 114 j) (nI (j + 1)) σ
          rw [f_X4_spentByAll_b4, e2]
          simp (disch := omega) only [rdN, wrN, rdZ, wrZ, p_put_eq, call_some, nzN, boN, nI_1, nI_add, pk_mul, lit_4, lit_16, le_T, le_F, lt_T, lt_F, eq_T, eq_F, le_T0, le_F0, lt_F0, lt_T0, eq_T0, eq_F0, eqm_F, up_s2, up_n2, Ev_some, nz_0, nz_1, if_true, if_false, reduceIte, and_true, true_and, and_false, false_and, b2_0, b2_1, Bool.true_eq_false, Bool.false_eq_true, not_true_eq_false, not_false_eq_true]
          rw [show σ (13 + 3) j = τ 114 j from sp j (by omega)]) fu 0 0 (Nat.zero_le _) (fu_lt (by omega))
        rw [Int32.zero_add, Nat.sub_zero, s2] at this
        exact this
      have eM : ∀ p, f_X11_mine_b35 103 fu (nI w) (nI p) 0 0 τ = (if nI S = 0 then some (nI p, τ) else if nI p = 0 then p_rd τ 114 6 (nI w) (fun v1 => f_X11_mine_b80 103 (nI w) (nI S) v1 τ) else f_X11_mine_b80 103 (nI w) (nI S) (nI S) τ) := fun p => by
        have := lp_sm (L := fun f j a => f_X11_mine_b35 103 f (nI w) (nI p) a (nI j) τ) (m := n) (g := τ 114) (E := fun a => if a = 0 then some (nI p, τ) else if nI p = 0 then p_rd τ 114 6 (nI w) (fun v1 => f_X11_mine_b80 103 (nI w) a v1 τ) else f_X11_mine_b80 103 (nI w) a a τ) (fun f a => by
          show f_X11_mine_b35 103 (f + 1) (nI w) (nI p) a (nI n) τ = _
          rw [f_X11_mine_b35, e1, if_pos (nI_le (Nat.le_refl _) (by omega))]) (fun f j a hj => by
          show f_X11_mine_b35 103 (f + 1) (nI w) (nI p) a (nI j) τ = f_X11_mine_b35 103 f (nI w) (nI p) (a + τ 114 j) (nI (j + 1)) τ
          rw [f_X11_mine_b35, e1]
          simp (disch := omega) only [rdN, wrN, rdZ, wrZ, p_put_eq, call_some, nzN, boN, nI_1, nI_add, pk_mul, lit_4, lit_16, le_T, le_F, lt_T, lt_F, eq_T, eq_F, le_T0, le_F0, lt_F0, lt_T0, eq_T0, eq_F0, eqm_F, up_s2, up_n2, Ev_some, nz_0, nz_1, if_true, if_false, reduceIte, and_true, true_and, and_false, false_and, b2_0, b2_1, Bool.true_eq_false, Bool.false_eq_true, not_true_eq_false, not_false_eq_true]) fu 0 0 (Nat.zero_le _) (fu_lt (by omega))
        rw [Int32.zero_add, Nat.sub_zero, s2] at this
        exact this
      rw [eX, call_some, eM]
      rcases Nat.eq_zero_or_pos S with hS | hS
      · rw [hS, if_pos (show nI 0 = 0 from rfl), if_pos (show nI 0 = 0 from rfl)]
        exact Rl.of rfl rfl h
      · have hne := nI_ne0 hS (by omega)
        rw [if_neg hne, if_neg hne]
        have eg : f_X4_commonDivisor (nI s) (nI S) σ = some (nI (Nat.gcd s S), σ) := x_gcd 20 s S fu 0 (by omega) (by omega) (by omega) (by decide) (by decide) hS
        have eh : f_X11_divisor (nI s) (nI S) τ = some (nI (Nat.gcd s S), τ) := by
          have := y_gcd (σ := τ) fu s S (by unfold fu; omega) (by omega) (by omega)
          rw [Nat.gcd_comm] at this
          exact this
        have hg : 0 < Nat.gcd s S := Nat.gcd_pos_of_pos_right _ hS
        have hg2 : Nat.gcd s S < 2 ^ 31 := Nat.lt_of_le_of_lt (Nat.le_of_dvd hS (Nat.gcd_dvd_right _ _)) (by omega)
        have b1 : σ (0 + 1 + 12 + 3) w = nI s := (sp w (by omega)).trans t2
        have b2' : τ (103 + 11) w = nI s := t2
        unfold f_X11_mine_b80
        simp (disch := omega) only [rdN, wrN, rdZ, wrZ, p_put_eq, call_some, nzN, boN, nI_1, nI_add, pk_mul, lit_4, lit_16, le_T, le_F, lt_T, lt_F, eq_T, eq_F, le_T0, le_F0, lt_F0, lt_T0, eq_T0, eq_F0, eqm_F, up_s2, up_n2, Ev_some, nz_0, nz_1, if_true, if_false, reduceIte, and_true, true_and, and_false, false_and, b2_0, b2_1, Bool.true_eq_false, Bool.false_eq_true, not_true_eq_false, not_false_eq_true, b1, b2', t2, eg, eh]
        by_cases hp0 : nI p = 0
        · rw [if_pos hp0, if_pos hp0]; exact Rl.of rfl rfl h
        · rw [if_neg hp0, if_neg hp0]; exact Rl.of rfl rfl h
end RK
