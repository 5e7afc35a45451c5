/-! count, image, on, feed (the rows wb_.. are the kit's, given for pasting) -/
theorem wb_tb (n : Nat) : (lN n).toBitVec = BitVec.ofNat 64 n := rfl
theorem wb_inj {a b : Int64} (h : a.toBitVec = b.toBitVec) : a = b := Int64.toBitVec_inj.mp h
theorem wb_tn {n : Nat} (h : n < 2 ^ 64) : (lN n).toBitVec.toNat = n := by rw [wb_tb, BitVec.toNat_ofNat, Nat.mod_eq_of_lt h]
theorem wb_of (x : Int64) : ∃ n, n < 2 ^ 64 ∧ x = lN n := ⟨x.toBitVec.toNat, x.toBitVec.isLt, wb_inj (by rw [wb_tb]; simp)⟩
theorem wb_of32 (x : Int32) : ∃ n, n < 2 ^ 32 ∧ x = nI n := ⟨x.toBitVec.toNat, x.toBitVec.isLt, Int32.toBitVec_inj.mp (by show _ = BitVec.ofNat 32 _; simp)⟩
theorem wb_c : ∀ k, k < 64 → ((nI k).toInt64 &&& 63) = lN k := by decide +kernel
theorem wb_cu : ∀ k, k < 64 → ((nI k).toInt64.toUInt64 &&& Int64.toUInt64 63) = UInt64.ofNat k := by decide +kernel
theorem wb_sm : ∀ k, k < 64 → (BitVec.ofNat 64 k).smod 64 = BitVec.ofNat 64 k := by decide +kernel
theorem wb_pw {a b : Nat} (h : a ≤ b) : 2 ^ b = 2 ^ a * 2 ^ (b - a) := by rw [← Nat.pow_add]; congr 1; omega
theorem wb_lt2 {a b : Nat} (h : a < b) : 2 ^ a < 2 ^ b := Nat.pow_lt_pow_right (by decide) h
theorem wb_mod (n : Nat) : lN n = lN (n % 2 ^ 64) := wb_inj (by rw [wb_tb, wb_tb]; apply BitVec.eq_of_toNat_eq; rw [BitVec.toNat_ofNat, BitVec.toNat_ofNat, Nat.mod_mod])
theorem wb_shr {n k : Nat} (hn : n < 2 ^ 64) (hk : k < 64) : ((lN n).toUInt64 >>> ((nI k).toInt64.toUInt64 &&& Int64.toUInt64 63)).toInt64 = lN (n / 2 ^ k) := by
  rw [wb_cu k hk]
  apply wb_inj
  apply BitVec.eq_of_toNat_eq
  show ((lN n).toUInt64 >>> UInt64.ofNat k).toNat = (BitVec.ofNat 64 _).toNat
  have h1 : (UInt64.ofNat k).toNat = k := by
    show (BitVec.ofNat 64 k).toNat = k
    rw [BitVec.toNat_ofNat, Nat.mod_eq_of_lt (by omega)]
  have h2 : (lN n).toUInt64.toNat = n := wb_tn hn
  rw [UInt64.toNat_shiftRight, h1, h2, Nat.mod_eq_of_lt hk, Nat.shiftRight_eq_div_pow, BitVec.toNat_ofNat, Nat.mod_eq_of_lt (Nat.lt_of_le_of_lt (Nat.div_le_self _ _) hn)]
theorem wb_shl (n : Nat) {k : Nat} (hk : k < 64) : lN n <<< ((nI k).toInt64 &&& 63) = lN (n * 2 ^ k) := by
  rw [wb_c k hk]
  apply wb_inj
  rw [Int64.toBitVec_shiftLeft, wb_tb, wb_tb, wb_tb, wb_sm k hk]
  apply BitVec.eq_of_toNat_eq
  rw [BitVec.shiftLeft_eq', BitVec.toNat_shiftLeft, BitVec.toNat_ofNat, BitVec.toNat_ofNat, BitVec.toNat_ofNat, Nat.mod_eq_of_lt (show k < 2 ^ 64 by omega), Nat.shiftLeft_eq, Nat.mul_mod, Nat.mod_mod, ← Nat.mul_mod]
theorem wb_and {a b : Nat} (ha : a < 2 ^ 64) (hb : b < 2 ^ 64) : lN a &&& lN b = lN (a &&& b) := by
  apply wb_inj
  rw [Int64.toBitVec_and, wb_tb, wb_tb, wb_tb]
  apply BitVec.eq_of_toNat_eq
  rw [BitVec.toNat_and, BitVec.toNat_ofNat, BitVec.toNat_ofNat, BitVec.toNat_ofNat, Nat.mod_eq_of_lt ha, Nat.mod_eq_of_lt hb, Nat.mod_eq_of_lt (Nat.and_lt_two_pow _ hb)]
theorem wb_or {a b : Nat} (ha : a < 2 ^ 64) (hb : b < 2 ^ 64) : lN a ||| lN b = lN (a ||| b) := by
  apply wb_inj
  rw [Int64.toBitVec_or, wb_tb, wb_tb, wb_tb]
  apply BitVec.eq_of_toNat_eq
  rw [BitVec.toNat_or, BitVec.toNat_ofNat, BitVec.toNat_ofNat, BitVec.toNat_ofNat, Nat.mod_eq_of_lt ha, Nat.mod_eq_of_lt hb, Nat.mod_eq_of_lt (Nat.or_lt_two_pow ha hb)]
theorem wb_mask {n k : Nat} (hn : n < 2 ^ 64) (hk : k < 64) : lN n &&& lN (2 ^ k - 1) = lN (n % 2 ^ k) := by
  rw [wb_and hn (by have := wb_lt2 hk; omega), Nat.and_two_pow_sub_one_eq_mod]

def Rc (i : Nat) (P : Prop) (f g : Rs) : Prop := ∃ (v v' : Int32) (σ' τ' : Sg), f = some (v, σ') ∧ g = some (v', τ') ∧ Inv i σ' τ' ∧ (P → v = v')
section RI
variable {i : Nat} {σ τ : Sg}
theorem Rl.c {P : Prop} {f g : Rs} (h : Rl i f g) : Rc i P f g := by
  obtain ⟨v, σ', τ', a, b, e⟩ := h
  exact ⟨v, v, σ', τ', a, b, e, fun _ => rfl⟩
theorem filled_eq {r c : Nat} (g1 : GOk (gM τ) r c (60 * i)) (g2 : GameOk σ 1 (gM τ) r c) : sm (fun q => b2 (fl (σ 8) q)) 0 16 = sm (fun q => b2 (flR (τ 108) q)) 0 (r * c) := by
  have := sm_fl (g := fun _ => true) g1 g2
  simp only [Bool.and_true] at this
  exact this
theorem r_count {x : Int32} (h : Inv i σ τ) : Rc i (¬ x = 6) (f_X10_count 0 x σ) (f_X11_count 103 x τ) := by
  obtain ⟨⟨r, c, g1, g2, g3⟩, -, ⟨tn, t1, t2, t3, -⟩, ⟨dn, d1, d2, d3, -⟩, rf⟩ := id h
  have hrc := g1.rc
  obtain ⟨n, m6, e1, e2, -⟩ := people g1 g2
  -- the part behind the refusals
  have tail : Rc i (¬ x = 6) (f_X10_count_b22 0 x σ) (if x = 0 then (some (τ 103 11, τ)) else (if x = 1 then (some (τ 103 12, τ)) else (if x = 2 then (some (τ 103 13, τ)) else (if x = 3 then (p_call (f_X11_laidMany 103 τ) (fun v3 s4 => some (v3, s4))) else (if x = 4 then (p_call (f_X11_lostMany 103 τ) (fun v5 s6 => some (v5, s6))) else (if x = 5 then (some ((τ 103 11 * (τ 103 12 - 1)) + (τ 103 12 * (τ 103 11 - 1)), τ)) else (if x = 6 then (some (τ 103 14, τ)) else (if x = 7 then (some (τ 103 39, τ)) else (if x = 8 then (some (τ 103 21, τ)) else (some ((-9), τ))))))))))) := by
    have a0 : σ 2 0 = τ 103 11 := g2.1.1.trans g1.1.1.symm
    have a1 : σ 2 1 = τ 103 12 := g2.1.2.1.trans g1.1.2.1.symm
    unfold f_X10_count_b22 f_X1_innerEdges
    by_cases x0 : x = 0
    · rw [if_pos x0, if_pos x0]; exact (Rl.of rfl (by rw [show σ (0 + 1 + 1) 0 = _ from a0]) h).c
    rw [if_neg x0, if_neg x0]
    by_cases x1 : x = 1
    · rw [if_pos x1, if_pos x1]; exact (Rl.of rfl (by rw [show σ (0 + 1 + 1) 1 = _ from a1]) h).c
    rw [if_neg x1, if_neg x1]
    by_cases x2 : x = 2
    · rw [if_pos x2, if_pos x2]; exact (Rl.of rfl (by rw [show σ (0 + 1 + 12) 0 = _ from e2, e1]) h).c
    rw [if_neg x2, if_neg x2]
    by_cases x3 : x = 3
    · rw [if_pos x3, if_pos x3, x_howManyFilled, call_some, y_laidMany g1.sz, call_some]
      exact (Rl.of rfl (by rw [show sm (fun q => b2 (fl (σ (0 + 1 + 6 + 1)) q)) 0 16 = _ from filled_eq g1 g2]) h).c
    rw [if_neg x3, if_neg x3]
    by_cases x4 : x = 4
    · rw [if_pos x4, if_pos x4, x_howManyLost, call_some, y_lostMany g1.sz, call_some]
      exact (Rl.of rfl (by rw [show sm (fun q => b2 (!decide (σ (0 + 1 + 6 + 5) q = 0))) 0 16 = sm (τ (103 + 8)) 0 (r * c) from lostM g1 (fun q hq => (g2.2.2.2.1 q hq).2.2.2.2)]) h).c
    rw [if_neg x4, if_neg x4]
    by_cases x5 : x = 5
    · rw [if_pos x5, if_pos x5, call_some]; exact (Rl.of rfl (by rw [show σ (0 + 1 + 1) 0 = _ from a0, show σ (0 + 1 + 1) 1 = _ from a1]) h).c
    rw [if_neg x5, if_neg x5]
    by_cases x6 : x = 6
    · rw [if_pos x6, if_pos x6]; exact ⟨_, _, _, _, rfl, rfl, h, fun u => absurd x6 u⟩
    rw [if_neg x6, if_neg x6]
    by_cases x7 : x = 7
    · rw [if_pos x7, if_pos x7]; exact (Rl.of rfl (by rw [show σ (0 + 57) 1 = _ from d3, d2]) h).c
    rw [if_neg x7, if_neg x7]
    by_cases x8 : x = 8
    · rw [if_pos x8, if_pos x8]; exact (Rl.of rfl (by rw [show σ (0 + 55) 1 = _ from t3, t2]) h).c
    rw [if_neg x8, if_neg x8]
    exact (Rl.of rfl rfl h).c
  unfold f_X10_count f_X11_count
  rw [y_isIn, call_some]
  by_cases h1 : x < 11
  · rw [if_pos h1, decide_eq_false (Int32.not_le.mpr h1), Bool.false_and, if_pos (by rfl)]
    exact tail
  · rw [if_neg h1, decide_eq_true (Int32.not_lt.mp h1), Bool.true_and]
    by_cases h2 : x ≤ 16
    · rw [if_neg (Int32.not_lt.mpr h2), decide_eq_true h2, if_neg (by decide)]
      have hx : inB 17 x = true := by
        unfold inB
        rw [decide_eq_true (Int32.le_trans (by decide) (Int32.not_lt.mp h1)), decide_eq_true (cast (le_lt 16 (by decide)) h2)]
        rfl
      obtain ⟨j, hj, rfl⟩ := inB_of (by decide) hx
      have hj2 : 11 ≤ j := by
        rcases Nat.lt_or_ge j 11 with u | u
        · exact absurd (show nI j < nI 11 from nI_lt u (by decide)) h1
        · exact u
      have e : nI j - 10 = nI (j - 10) := pk_sub (b := 10) (by omega)
      rw [e, rdN (by omega) (by decide), rdN (by omega) (by decide)]
      exact (Rl.of rfl (by rw [show σ (0 + 102) (j - 10) = τ (103 + 1) (j - 10) from rf (j - 10) (by omega)]) h).c
    · rw [if_pos (Int32.not_le.mp h2), decide_eq_false h2, if_pos (by rfl)]
      exact tail
theorem kst_eq {υ τ0 : Sg} {w : Nat} (h : Kst υ τ0 103 w 134) : EqA (gK υ w) (gM τ0) := by
  obtain ⟨-, -, -, -, h5⟩ := h
  refine ⟨fun j hj i hi => ?_, fun j hj hj2 i hi => ?_, fun i hi => ?_⟩
  · rw [gM_at (by omega)]
    unfold gK
    rw [if_pos hj]
    have := h5 (16 * j + i) (by omega)
    unfold kv at this
    rw [if_pos (by omega), show (16 * j + i) / 16 = j by omega, show (16 * j + i) % 16 = i by omega] at this
    exact this
  · rw [gM_at (by omega)]
    unfold gK
    rw [if_neg (by omega), if_pos hj2]
    have := h5 (112 + 6 * (j - 7) + i) (by omega)
    unfold kv at this
    rw [if_neg (by omega), if_pos (by omega), show (112 + 6 * (j - 7) + i - 112) / 6 = j - 7 by omega, show (112 + 6 * (j - 7) + i - 112) % 6 = i by omega, show 103 + 9 + (j - 7) = 105 + j by omega] at this
    exact this
  · have := h5 (130 + i) (by omega)
    unfold kv at this
    rw [if_neg (by omega), if_neg (by omega), show 130 + i - 130 = i by omega] at this
    exact this
theorem bst_eq {φ υ : Sg} {w : Nat} (h : Bst φ υ 103 w 134) : EqA (gM φ) (gK υ w) := by
  obtain ⟨-, -, -, h4, h5, h6⟩ := h
  refine ⟨fun j hj i hi => ?_, fun j hj hj2 i hi => ?_, fun i hi => ?_⟩
  · rw [gM_at (by omega)]
    unfold gK
    rw [if_pos hj]
    exact h4 j hj i hi (by omega)
  · rw [gM_at (by omega)]
    unfold gK
    rw [if_neg (by omega), if_pos hj2]
    have := h5 (j - 7) (by omega) i hi (by omega)
    rw [show 103 + 9 + (j - 7) = 105 + j by omega] at this
    exact this
  · exact h6 i (by omega) (by omega)
theorem r_image (h : Inv i σ τ) : Rl i (f_X10_image 0 σ) (f_X11_image 103 τ) := by
  obtain ⟨h1, h2, h3, h4, h5⟩ := Inv.iff.mp h
  obtain ⟨r, c, g1, g2, g3⟩ := id h1
  have hrc := g1.rc
  obtain ⟨_, υ, e1, f1, f2⟩ := x_copyG' (k := 33) (k1 := 1) (by decide) g2 g1
  obtain ⟨_, φ, e2, k1⟩ := y_keepAll (τ := sg_up τ 103 25 1) (k := 103) (w := 0) (by decide)
  have E1 : EqA (gM (sg_up (sg_up (sg_up τ 103 25 1) 103 27 (nI (200 * 0))) 103 26 1)) (gM τ) := gM_fr (fun a _ _ => by rw [up_a (by omega), up_a (by omega), up_a (by omega)]) (fun b _ _ => by rw [up_n2 (by omega), up_n2 (by omega), up_n2 (by omega)])
  have E2 : EqA (gK φ 0) (gM τ) := E1.trans (kst_eq k1)
  have E3 : EqA (gM φ) (gM τ) := E1.trans (gM_fr (fun a _ _ => k1.1 a (by omega) (by omega)) (fun b _ _ => k1.2.1 b (by omega)))
  have ef : ∀ a, a < 103 → True := fun _ _ => trivial
  unfold f_X10_image f_X11_image
  have hx : f_X0_howManyFilled (0 + 1 + 6) (sg_up υ 0 11 1) = some (sm (fun q => b2 (fl (σ 8) q)) 0 16, sg_up υ 0 11 1) := by
    rw [x_howManyFilled]
    have : sg_up υ 0 11 1 (0 + 1 + 6 + 1) = σ 8 := by rw [up_a (by decide)]; exact f1 8 (by decide)
    rw [this]
  have G1 := g1.cg E3
  rw [show f_X3_copyFrom (0 + 33) (0 + 1) σ = _ from e1, call_some, bo1, p_put_eq, hx, call_some, bo1, p_put_eq, show f_X11_passesAll 103 0 1 (sg_up τ 103 25 1) = _ from e2, call_some, y_laidMany G1.sz, call_some]
  have e8 : φ (103 + 5) = τ 108 := by rw [k1.1 _ (by decide) (by decide), up_a (by decide), up_a (by decide), up_a (by decide)]
  have G2 : GameOk (sg_up υ 0 11 1) 33 (gM τ) r c := f2.fr (fun j _ _ => up_a (by omega))
  refine Rl.of rfl (by rw [e8, filled_eq g1 g2]) (Inv.iff.mpr ⟨?_, ⟨?_, .inr ⟨?_, r, c, g1.cg E2, G2.cg E2⟩⟩, ?_, ?_, ?_⟩)
  · exact h1.fr (fun a _ _ => by rw [up_a (by omega)]; exact f1 a (by omega)) ⟨by rw [up_a (by decide)]; exact f1 59 (by decide), by rw [up_a (by decide)]; exact f1 67 (by decide), by rw [up_a (by decide)]; exact f1 68 (by decide)⟩ E3
  · rw [k1.2.1 25 (by decide)]
    simp (disch := omega) only [rdN, wrN, rdZ, wrZ, p_put_eq, call_some, nzN, boN, nI_1, nI_add, pk_mul, lit_4, lit_16, le_T, le_F, lt_T, lt_F, eq_T, eq_F, le_T0, le_F0, lt_F0, lt_T0, eq_T0, eq_F0, eqm_F, up_s2, up_n2, Ev_some, nz_0, nz_1, if_true, if_false, reduceIte, and_true, true_and, and_false, false_and, b2_0, b2_1, Bool.true_eq_false, Bool.false_eq_true, not_true_eq_false, not_false_eq_true]
  · simp (disch := omega) only [rdN, wrN, rdZ, wrZ, p_put_eq, call_some, nzN, boN, nI_1, nI_add, pk_mul, lit_4, lit_16, le_T, le_F, lt_T, lt_F, eq_T, eq_F, le_T0, le_F0, lt_F0, lt_T0, eq_T0, eq_F0, eqm_F, up_s2, up_n2, Ev_some, nz_0, nz_1, if_true, if_false, reduceIte, and_true, true_and, and_false, false_and, b2_0, b2_1, Bool.true_eq_false, Bool.false_eq_true, not_true_eq_false, not_false_eq_true]
  · exact h3.fr (by rw [up_a (by decide), f1 55 (by decide)]) (by rw [up_a (by decide)]; exact f1 56 (by decide)) (by rw [k1.2.1 21 (by decide)]; simp (disch := omega) only [rdN, wrN, rdZ, wrZ, p_put_eq, call_some, nzN, boN, nI_1, nI_add, pk_mul, lit_4, lit_16, le_T, le_F, lt_T, lt_F, eq_T, eq_F, le_T0, le_F0, lt_F0, lt_T0, eq_T0, eq_F0, eqm_F, up_s2, up_n2, Ev_some, nz_0, nz_1, if_true, if_false, reduceIte, and_true, true_and, and_false, false_and, b2_0, b2_1, Bool.true_eq_false, Bool.false_eq_true, not_true_eq_false, not_false_eq_true]) (by rw [k1.1 115 (by decide) (by decide), up_a (by decide), up_a (by decide), up_a (by decide)])
  · exact h4.fr (by rw [up_a (by decide), f1 57 (by decide)]) (by rw [up_a (by decide)]; exact f1 58 (by decide)) (by rw [k1.2.1 39 (by decide)]; simp (disch := omega) only [rdN, wrN, rdZ, wrZ, p_put_eq, call_some, nzN, boN, nI_1, nI_add, pk_mul, lit_4, lit_16, le_T, le_F, lt_T, lt_F, eq_T, eq_F, le_T0, le_F0, lt_F0, lt_T0, eq_T0, eq_F0, eqm_F, up_s2, up_n2, Ev_some, nz_0, nz_1, if_true, if_false, reduceIte, and_true, true_and, and_false, false_and, b2_0, b2_1, Bool.true_eq_false, Bool.false_eq_true, not_true_eq_false, not_false_eq_true]) (by rw [k1.1 126 (by decide) (by decide), up_a (by decide), up_a (by decide), up_a (by decide)])
  · exact h5.fr (by rw [up_a (by decide)]; exact f1 102 (by decide)) (by rw [k1.1 104 (by decide) (by decide), up_a (by decide), up_a (by decide), up_a (by decide)])
theorem r_on (h : Inv i σ τ) : Rl i (f_X10_on 0 σ) (f_X11_on 103 τ) := by
  obtain ⟨h1, h2, h3, h4, h5⟩ := Inv.iff.mp h
  obtain ⟨i1, i2⟩ := id h2
  unfold f_X10_on f_X11_on
  rw [i1]
  rcases i2 with e | ⟨e, r, c, g1, g2⟩
  · rw [if_pos e, if_pos e]; exact r_no h (by decide) n3
  · have hne : ¬ σ 0 11 = 0 := by rw [e]; decide
    rw [if_neg hne, if_neg hne]
    have hrc := g1.rc
    obtain ⟨_, υ, e1, f1, f2⟩ := x_copyG' (k := 1) (k1 := 33) (by decide) g2 g1
    obtain ⟨_, φ, e2, k1⟩ := y_backAll (υ := τ) (k := 103) (w := 0) (by decide)
    have E1 : EqA (gK (sg_up (sg_up τ 103 27 (nI (200 * 0))) 103 26 0) 0) (gK τ 0) := gK_cg (fun b _ => by rw [up_a (by decide), up_a (by decide)])
    have E2 : EqA (gM φ) (gK τ 0) := E1.trans (bst_eq k1)
    have G1 := g1.cg E2
    have G2 : GameOk (sg_up υ 59 2 0) 1 (gM φ) r c := (f2.cg E2).fr (fun j _ _ => up_a (by omega))
    rw [show f_X3_copyFrom (0 + 1) (0 + 33) σ = _ from e1, call_some, bo0, p_put_eq, x_howManyFilled, call_some, show f_X11_passesAll 103 0 0 τ = _ from e2, call_some, y_laidMany G1.sz, call_some]
    have e3 := filled_eq G1 G2
    refine Rl.of rfl (by rw [show sm (fun q => b2 (flR (φ (103 + 5)) q)) 0 (r * c) = _ from e3.symm]) (Inv.iff.mpr ⟨⟨r, c, G1, G2, .inl (by simp (disch := omega) only [rdN, wrN, rdZ, wrZ, p_put_eq, call_some, nzN, boN, nI_1, nI_add, pk_mul, lit_4, lit_16, le_T, le_F, lt_T, lt_F, eq_T, eq_F, le_T0, le_F0, lt_F0, lt_T0, eq_T0, eq_F0, eqm_F, up_s2, up_n2, Ev_some, nz_0, nz_1, if_true, if_false, reduceIte, and_true, true_and, and_false, false_and, b2_0, b2_1, Bool.true_eq_false, Bool.false_eq_true, not_true_eq_false, not_false_eq_true])⟩, ?_, ?_, ?_, ?_⟩)
    · exact h2.fr (fun a _ _ => by rw [up_a (by omega)]; exact f1 a (by omega)) (by rw [up_a (by decide), f1 0 (by decide)]) (by rw [k1.2.1 25 (by decide) (by decide)]; simp (disch := omega) only [rdN, wrN, rdZ, wrZ, p_put_eq, call_some, nzN, boN, nI_1, nI_add, pk_mul, lit_4, lit_16, le_T, le_F, lt_T, lt_F, eq_T, eq_F, le_T0, le_F0, lt_F0, lt_T0, eq_T0, eq_F0, eqm_F, up_s2, up_n2, Ev_some, nz_0, nz_1, if_true, if_false, reduceIte, and_true, true_and, and_false, false_and, b2_0, b2_1, Bool.true_eq_false, Bool.false_eq_true, not_true_eq_false, not_false_eq_true]) (fun b _ => by rw [k1.1 121 (by decide) (by decide), up_a (by decide), up_a (by decide)])
    · exact h3.fr (by rw [up_a (by decide), f1 55 (by decide)]) (by rw [up_a (by decide)]; exact f1 56 (by decide)) (by rw [k1.2.1 21 (by decide) (by decide)]; simp (disch := omega) only [rdN, wrN, rdZ, wrZ, p_put_eq, call_some, nzN, boN, nI_1, nI_add, pk_mul, lit_4, lit_16, le_T, le_F, lt_T, lt_F, eq_T, eq_F, le_T0, le_F0, lt_F0, lt_T0, eq_T0, eq_F0, eqm_F, up_s2, up_n2, Ev_some, nz_0, nz_1, if_true, if_false, reduceIte, and_true, true_and, and_false, false_and, b2_0, b2_1, Bool.true_eq_false, Bool.false_eq_true, not_true_eq_false, not_false_eq_true]) (by rw [k1.1 115 (by decide) (by decide), up_a (by decide), up_a (by decide)])
    · exact h4.fr (by rw [up_a (by decide), f1 57 (by decide)]) (by rw [up_a (by decide)]; exact f1 58 (by decide)) (by rw [k1.2.1 39 (by decide) (by decide)]; simp (disch := omega) only [rdN, wrN, rdZ, wrZ, p_put_eq, call_some, nzN, boN, nI_1, nI_add, pk_mul, lit_4, lit_16, le_T, le_F, lt_T, lt_F, eq_T, eq_F, le_T0, le_F0, lt_F0, lt_T0, eq_T0, eq_F0, eqm_F, up_s2, up_n2, Ev_some, nz_0, nz_1, if_true, if_false, reduceIte, and_true, true_and, and_false, false_and, b2_0, b2_1, Bool.true_eq_false, Bool.false_eq_true, not_true_eq_false, not_false_eq_true]) (by rw [k1.1 126 (by decide) (by decide), up_a (by decide), up_a (by decide)])
    · exact h5.fr (by rw [up_a (by decide)]; exact f1 102 (by decide)) (by rw [k1.1 104 (by decide) (by decide), up_a (by decide), up_a (by decide)])
theorem fd_s {n k : Nat} (hn : n < 2 ^ 64) (hk : k + 8 ≤ 64) : (lN n >>> ((nI k).toInt64 &&& 63)) &&& 255 = lN (n / 2 ^ k % 256) := by
  have e255 : (255 : Int64) = lN (2 ^ 8 - 1) := rfl
  have hdiv : n / 2 ^ k < 2 ^ 64 := Nat.lt_of_le_of_lt (Nat.div_le_self _ _) hn
  rw [show (256 : Nat) = 2 ^ 8 from rfl, ← wb_mask hdiv (by decide), ← e255]
  apply wb_inj
  apply BitVec.eq_of_getLsbD_eq
  intro j hj
  rw [Int64.toBitVec_and, Int64.toBitVec_and, BitVec.getLsbD_and, BitVec.getLsbD_and]
  rcases Nat.lt_or_ge j 8 with u | u
  · congr 1
    rw [wb_c k (by omega), Int64.toBitVec_shiftRight, wb_tb k, wb_sm k (by omega), wb_tb n, wb_tb]
    show ((BitVec.ofNat 64 n).sshiftRight (BitVec.ofNat 64 k).toNat).getLsbD j = _
    rw [BitVec.toNat_ofNat, Nat.mod_eq_of_lt (by omega), BitVec.getLsbD_sshiftRight, BitVec.getLsbD_ofNat, BitVec.getLsbD_ofNat, Nat.testBit_div_two_pow]
    simp [hj, show k + j < 64 by omega, Nat.add_comm]
  · have key : ∀ j, j < 64 → 8 ≤ j → (255 : Int64).toBitVec.getLsbD j = false := by decide +kernel
    rw [key j hj u, Bool.and_false, Bool.and_false]
theorem nc_b : ∀ b, b < 256 → nc (((nI b).toUInt32 % 65536).toInt32) = nI b := by decide +kernel
theorem fd_32 {b : Nat} : (lN b).toInt32 = nI b := Int64.toInt32_ofNat
theorem fd_j : ∀ j, j < 8 → (8 : Int32) * nI j = nI (8 * j) := by decide +kernel
theorem r_feed {x : Int32} {y : Int64} (h : Inv i σ τ) : Rl i (f_X10_feed 0 x y σ) (f_X11_feed 103 x y τ) := by
  have N4 : Rl i (p_call (f_X10_refuse 0 (-4) σ) (fun v s => some (v, s))) (p_call (f_X11_no 103 (-4) τ) (fun v s => some (v, s))) := r_no h (by decide) n4
  have N6 : Rl i (p_call (f_X10_refuse 0 (-6) σ) (fun v s => some (v, s))) (p_call (f_X11_no 103 (-6) τ) (fun v s => some (v, s))) := r_no h (by decide) n6
  obtain ⟨h1, h2, h3, h4, h5⟩ := Inv.iff.mp h
  obtain ⟨t, t1, t2, t3, t4⟩ := h3
  unfold f_X10_feed f_X11_feed f_X11_feed_b29 f_X10_feed_b32
  rw [y_bound, call_some]
  by_cases x1 : 1 ≤ x
  · rw [if_pos x1, if_pos x1]
    by_cases x8 : x ≤ 8
    · rw [if_neg (Int32.not_lt.mpr x8), if_pos x8, if_pos rfl, if_neg (show ¬ (-6 : Int32) = 0 by decide), if_pos rfl]
      have hx : inB 9 x = true := by
        unfold inB
        rw [decide_eq_true (Int32.le_trans (by decide) x1), decide_eq_true (cast (le_lt 8 (by decide)) x8)]
        rfl
      obtain ⟨m, hm, rfl⟩ := inB_of (by decide) hx
      rw [show σ (0 + 55) 1 = nI t from t3, t2, nI_add, L64]
      rcases Nat.lt_or_ge 64 (t + m) with u | u
      · rw [if_neg (nI_ge u (by omega)), if_neg (nI_ge u (by omega))]
        exact N6
      · rw [if_pos (nI_le u (by omega)), if_pos (nI_le u (by omega))]
        obtain ⟨N, hN, rfl⟩ := wb_of y
        -- the bytes come
        have hX : Ev (f_X7_take 55 (nI m) (lN N) σ) (fun _ υ => (∀ a, a ≠ 55 → a ≠ 56 → υ a = σ a) ∧ υ 55 1 = nI (t + m) ∧ (∀ j, j < t → υ 56 j = σ 56 j) ∧ ∀ j, j < m → υ 56 (t + j) = nI (N / 2 ^ (8 * j) % 256)) := by
          refine lp_ev (L := fun n j υ => f_X7_take_b3 55 n (nI m) (lN N) (nI j) υ) (m := m) (I := fun m υ => (∀ a, a ≠ 55 → a ≠ 56 → υ a = σ a) ∧ υ 55 1 = nI (t + m) ∧ (∀ j, j < t → υ 56 j = σ 56 j) ∧ ∀ j, j < m → υ 56 (t + j) = nI (N / 2 ^ (8 * j) % 256)) (fun n υ h => ?_) (fun n j υ hj h ih => ?_) fu 0 σ (Nat.zero_le _) (fu_lt (by omega)) ⟨fun _ _ _ => rfl, t3, fun _ _ => rfl, fun j hj => absurd hj (Nat.not_lt_zero _)⟩
          · show Ev (f_X7_take_b3 55 (n + 1) (nI m) (lN N) (nI m) υ) _
            simp (disch := omega) only [rdN, wrN, rdZ, wrZ, p_put_eq, call_some, nzN, boN, nI_1, nI_add, pk_mul, lit_4, lit_16, le_T, le_F, lt_T, lt_F, eq_T, eq_F, le_T0, le_F0, lt_F0, lt_T0, eq_T0, eq_F0, eqm_F, up_s2, up_n2, Ev_some, nz_0, nz_1, if_true, if_false, reduceIte, and_true, true_and, and_false, false_and, b2_0, b2_1, Bool.true_eq_false, Bool.false_eq_true, not_true_eq_false, not_false_eq_true, f_X7_take_b3]
            exact h
          · show Ev (f_X7_take_b3 55 (n + 1) (nI m) (lN N) (nI j) υ) _
            obtain ⟨a, b, d, e⟩ := h
            have hb : N / 2 ^ (8 * j) % 256 < 256 := Nat.mod_lt _ (by decide)
            have hdiv : N / 2 ^ (8 * j) < 2 ^ 64 := Nat.lt_of_le_of_lt (Nat.div_le_self _ _) hN
            have ev : ((((((((lN N).toUInt64 >>> (((8 * nI j) : Int32).toInt64.toUInt64 &&& Int64.toUInt64 63)).toInt64) &&& 255) : Int64).toInt32) : Int32).toUInt32 % 65536).toInt32 = ((nI (N / 2 ^ (8 * j) % 256)).toUInt32 % 65536).toInt32 := by
              rw [fd_j j (by omega), wb_shr hN (by omega), show (255 : Int64) = lN (2 ^ 8 - 1) from rfl, wb_mask hdiv (by decide), fd_32]
            rw [f_X7_take_b3, b, ev, nc_b _ hb]
            simp (disch := omega) only [rdN, wrN, rdZ, wrZ, p_put_eq, call_some, nzN, boN, nI_1, nI_add, pk_mul, lit_4, lit_16, le_T, le_F, lt_T, lt_F, eq_T, eq_F, le_T0, le_F0, lt_F0, lt_T0, eq_T0, eq_F0, eqm_F, up_s2, up_n2, Ev_some, nz_0, nz_1, if_true, if_false, reduceIte, and_true, true_and, and_false, false_and, b2_0, b2_1, Bool.true_eq_false, Bool.false_eq_true, not_true_eq_false, not_false_eq_true, L64]
            refine ih _ ⟨fun x y z => by rw [up_a y, up_a z]; exact a x y z, by simp (disch := omega) only [rdN, wrN, rdZ, wrZ, p_put_eq, call_some, nzN, boN, nI_1, nI_add, pk_mul, lit_4, lit_16, le_T, le_F, lt_T, lt_F, eq_T, eq_F, le_T0, le_F0, lt_F0, lt_T0, eq_T0, eq_F0, eqm_F, up_s2, up_n2, Ev_some, nz_0, nz_1, if_true, if_false, reduceIte, and_true, true_and, and_false, false_and, b2_0, b2_1, Bool.true_eq_false, Bool.false_eq_true, not_true_eq_false, not_false_eq_true, b], fun l hl => by simp (disch := omega) only [rdN, wrN, rdZ, wrZ, p_put_eq, call_some, nzN, boN, nI_1, nI_add, pk_mul, lit_4, lit_16, le_T, le_F, lt_T, lt_F, eq_T, eq_F, le_T0, le_F0, lt_F0, lt_T0, eq_T0, eq_F0, eqm_F, up_s2, up_n2, Ev_some, nz_0, nz_1, if_true, if_false, reduceIte, and_true, true_and, and_false, false_and, b2_0, b2_1, Bool.true_eq_false, Bool.false_eq_true, not_true_eq_false, not_false_eq_true, d l hl], fun l hl => ?_⟩
            by_cases w : l = j
            · subst w
              simp (disch := omega) only [rdN, wrN, rdZ, wrZ, p_put_eq, call_some, nzN, boN, nI_1, nI_add, pk_mul, lit_4, lit_16, le_T, le_F, lt_T, lt_F, eq_T, eq_F, le_T0, le_F0, lt_F0, lt_T0, eq_T0, eq_F0, eqm_F, up_s2, up_n2, Ev_some, nz_0, nz_1, if_true, if_false, reduceIte, and_true, true_and, and_false, false_and, b2_0, b2_1, Bool.true_eq_false, Bool.false_eq_true, not_true_eq_false, not_false_eq_true]
            · simp (disch := omega) only [rdN, wrN, rdZ, wrZ, p_put_eq, call_some, nzN, boN, nI_1, nI_add, pk_mul, lit_4, lit_16, le_T, le_F, lt_T, lt_F, eq_T, eq_F, le_T0, le_F0, lt_F0, lt_T0, eq_T0, eq_F0, eqm_F, up_s2, up_n2, Ev_some, nz_0, nz_1, if_true, if_false, reduceIte, and_true, true_and, and_false, false_and, b2_0, b2_1, Bool.true_eq_false, Bool.false_eq_true, not_true_eq_false, not_false_eq_true, e l (by omega)]
        have hM : Ev (f_X11_feed_b44 103 fu (nI m) (lN N) 0 τ) (fun v υ => v = nI (t + m) ∧ (∀ a, a ≠ 103 → a ≠ 115 → υ a = τ a) ∧ (∀ b, b ≠ 21 → υ 103 b = τ 103 b) ∧ υ 103 21 = nI (t + m) ∧ (∀ j, j < t → υ 115 j = τ 115 j) ∧ ∀ j, j < m → υ 115 (t + j) = nI (N / 2 ^ (8 * j) % 256)) := by
          refine lp_ev (L := fun n j υ => f_X11_feed_b44 103 n (nI m) (lN N) (nI j) υ) (m := m) (I := fun m υ => (∀ a, a ≠ 103 → a ≠ 115 → υ a = τ a) ∧ (∀ b, b ≠ 21 → υ 103 b = τ 103 b) ∧ υ 103 21 = nI (t + m) ∧ (∀ j, j < t → υ 115 j = τ 115 j) ∧ ∀ j, j < m → υ 115 (t + j) = nI (N / 2 ^ (8 * j) % 256)) (fun n υ h => ?_) (fun n j υ hj h ih => ?_) fu 0 τ (Nat.zero_le _) (fu_lt (by omega)) ⟨fun _ _ _ => rfl, fun _ _ => rfl, t2, fun _ _ => rfl, fun j hj => absurd hj (Nat.not_lt_zero _)⟩
          · show Ev (f_X11_feed_b44 103 (n + 1) (nI m) (lN N) (nI m) υ) _
            simp (disch := omega) only [rdN, wrN, rdZ, wrZ, p_put_eq, call_some, nzN, boN, nI_1, nI_add, pk_mul, lit_4, lit_16, le_T, le_F, lt_T, lt_F, eq_T, eq_F, le_T0, le_F0, lt_F0, lt_T0, eq_T0, eq_F0, eqm_F, up_s2, up_n2, Ev_some, nz_0, nz_1, if_true, if_false, reduceIte, and_true, true_and, and_false, false_and, b2_0, b2_1, Bool.true_eq_false, Bool.false_eq_true, not_true_eq_false, not_false_eq_true, f_X11_feed_b44]
            exact ⟨h.2.2.1, h⟩
          · show Ev (f_X11_feed_b44 103 (n + 1) (nI m) (lN N) (nI j) υ) _
            obtain ⟨a, a2, b, d, e⟩ := h
            have ev : ((((lN N) >>> (((8 * nI j) : Int32).toInt64 &&& 63)) &&& 255 : Int64).toInt32) = nI (N / 2 ^ (8 * j) % 256) := by
              rw [fd_j j (by omega), fd_s hN (by omega), fd_32]
            rw [f_X11_feed_b44, b, ev]
            simp (disch := omega) only [rdN, wrN, rdZ, wrZ, p_put_eq, call_some, nzN, boN, nI_1, nI_add, pk_mul, lit_4, lit_16, le_T, le_F, lt_T, lt_F, eq_T, eq_F, le_T0, le_F0, lt_F0, lt_T0, eq_T0, eq_F0, eqm_F, up_s2, up_n2, Ev_some, nz_0, nz_1, if_true, if_false, reduceIte, and_true, true_and, and_false, false_and, b2_0, b2_1, Bool.true_eq_false, Bool.false_eq_true, not_true_eq_false, not_false_eq_true]
            refine ih _ ⟨fun x y z => by rw [up_a y, up_a z]; exact a x y z, fun b' hb' => by simp (disch := omega) only [rdN, wrN, rdZ, wrZ, p_put_eq, call_some, nzN, boN, nI_1, nI_add, pk_mul, lit_4, lit_16, le_T, le_F, lt_T, lt_F, eq_T, eq_F, le_T0, le_F0, lt_F0, lt_T0, eq_T0, eq_F0, eqm_F, up_s2, up_n2, Ev_some, nz_0, nz_1, if_true, if_false, reduceIte, and_true, true_and, and_false, false_and, b2_0, b2_1, Bool.true_eq_false, Bool.false_eq_true, not_true_eq_false, not_false_eq_true, a2 b' hb'], by simp (disch := omega) only [rdN, wrN, rdZ, wrZ, p_put_eq, call_some, nzN, boN, nI_1, nI_add, pk_mul, lit_4, lit_16, le_T, le_F, lt_T, lt_F, eq_T, eq_F, le_T0, le_F0, lt_F0, lt_T0, eq_T0, eq_F0, eqm_F, up_s2, up_n2, Ev_some, nz_0, nz_1, if_true, if_false, reduceIte, and_true, true_and, and_false, false_and, b2_0, b2_1, Bool.true_eq_false, Bool.false_eq_true, not_true_eq_false, not_false_eq_true, b], fun l hl => by simp (disch := omega) only [rdN, wrN, rdZ, wrZ, p_put_eq, call_some, nzN, boN, nI_1, nI_add, pk_mul, lit_4, lit_16, le_T, le_F, lt_T, lt_F, eq_T, eq_F, le_T0, le_F0, lt_F0, lt_T0, eq_T0, eq_F0, eqm_F, up_s2, up_n2, Ev_some, nz_0, nz_1, if_true, if_false, reduceIte, and_true, true_and, and_false, false_and, b2_0, b2_1, Bool.true_eq_false, Bool.false_eq_true, not_true_eq_false, not_false_eq_true, d l hl], fun l hl => ?_⟩
            by_cases w : l = j
            · subst w
              simp (disch := omega) only [rdN, wrN, rdZ, wrZ, p_put_eq, call_some, nzN, boN, nI_1, nI_add, pk_mul, lit_4, lit_16, le_T, le_F, lt_T, lt_F, eq_T, eq_F, le_T0, le_F0, lt_F0, lt_T0, eq_T0, eq_F0, eqm_F, up_s2, up_n2, Ev_some, nz_0, nz_1, if_true, if_false, reduceIte, and_true, true_and, and_false, false_and, b2_0, b2_1, Bool.true_eq_false, Bool.false_eq_true, not_true_eq_false, not_false_eq_true]
            · simp (disch := omega) only [rdN, wrN, rdZ, wrZ, p_put_eq, call_some, nzN, boN, nI_1, nI_add, pk_mul, lit_4, lit_16, le_T, le_F, lt_T, lt_F, eq_T, eq_F, le_T0, le_F0, lt_F0, lt_T0, eq_T0, eq_F0, eqm_F, up_s2, up_n2, Ev_some, nz_0, nz_1, if_true, if_false, reduceIte, and_true, true_and, and_false, false_and, b2_0, b2_1, Bool.true_eq_false, Bool.false_eq_true, not_true_eq_false, not_false_eq_true, e l (by omega)]
        obtain ⟨_, υ, e1, a1, a2, a3, a4⟩ := hX
        obtain ⟨v, φ, e2, b0, b1, b2', b3, b4, b5⟩ := hM
        rw [show f_X7_take (0 + 55) (nI m) (lN N) σ = _ from e1, call_some, e2, b0]
        refine Rl.of rfl (by rw [show υ (0 + 55) 1 = _ from a2]) (Inv.iff.mpr ⟨?_, ?_, ⟨t + m, u, b3, a2, fun j hj => ?_⟩, ?_, ?_⟩)
        · exact h1.fr (fun a _ _ => a1 a (by omega) (by omega)) ⟨a1 59 (by decide) (by decide), a1 67 (by decide) (by decide), a1 68 (by decide) (by decide)⟩ (gM_fr (fun a _ _ => b1 a (by omega) (by omega)) (fun b _ _ => b2' b (by omega)))
        · exact h2.fr (fun a _ _ => a1 a (by omega) (by omega)) (by rw [a1 0 (by decide) (by decide)]) (b2' 25 (by decide)) (fun b _ => by rw [b1 121 (by decide) (by decide)])
        · rcases Nat.lt_or_ge j t with w | w
          · rw [a3 j w, b4 j w]; exact t4 j w
          · have w1 := a4 (j - t) (by omega)
            have w2 := b5 (j - t) (by omega)
            rw [show t + (j - t) = j by omega] at w1 w2
            exact ⟨_, Nat.mod_lt _ (by decide), w2, w1⟩
        · exact h4.fr (by rw [a1 57 (by decide) (by decide)]) (a1 58 (by decide) (by decide)) (b2' 39 (by decide)) (b1 126 (by decide) (by decide))
        · exact h5.fr (a1 102 (by decide) (by decide)) (b1 104 (by decide) (by decide))
    · rw [if_pos (Int32.not_le.mp x8), if_neg x8, if_neg (show ¬ (-6 : Int32) = 0 by decide), if_neg (show ¬ (-6 : Int32) = 0 by decide)]
      exact N6
  · rw [if_neg x1, if_neg x1, if_neg (show ¬ (-4 : Int32) = 0 by decide), if_neg (show ¬ (-4 : Int32) = 0 by decide)]
    exact N4
end RI
