/-! the tape: puzzle, the reading and the answer -/
/-- the reference is as it was but for what reading notes -/
def FP (ψ τ : Sg) : Prop := (∀ x, x ≠ 103 → x < 116 ∨ 120 < x → ψ x = τ x) ∧ ∀ b, b ≠ 22 → b ≠ 23 → ψ 103 b = τ 103 b
section TW
variable {n : Nat} {B : Nat → Nat} {i : Nat} {σ τ : Sg}
/-- both read on, from the statement k -/
theorem pz_rd {σ0 : Sg} (hB : TB n B) : ∀ (m k F G : Nat) (υ ψ : Sg), n < sA n B k + m → m ≤ F → m ≤ G → Gd n B k → TP σ0 υ n B (sA n B k, false) → TR ψ n B → FP ψ τ → ψ 103 23 = nI k → (∀ j, j < k → DA ψ n B j (sA n B j)) → ∃ (ok : Bool) (p : Nat) (υ' ψ' : Sg), p_call (f_X7_passStatement 55 υ) (fun _ s => f_X7_readInto_b16 55 17 F (nI k) s) = f_X7_readInto_b50 55 17 υ' ∧ f_X11_puzzle_b34 103 (f_X11_puzzle_b12 103 G) (mvA ψ (sA n B k)) = f_X11_puzzle_b60 103 (b2 ok) ψ' ∧ TP σ0 υ' n B (p, !ok) ∧ p ≤ n ∧ FP ψ' τ ∧ ψ' 103 22 = nI p ∧ (ok = true → ∃ K, 1 ≤ K ∧ Gd n B K ∧ sA n B K = n ∧ p = n ∧ ψ' 103 23 = nI K ∧ ∀ j, j < K → DA ψ' n B j (sA n B j))
  | 0, k, F, G, υ, ψ, h1, _, _, hg, _, _, _, _, _ => by
    have := (gd_le hg k (Nat.le_refl _)).2
    omega
  | m + 1, k, F, G, υ, ψ, h1, h2, h3, hg, hP, hT, hF, h23, hD => by
    have hn := hB.1
    obtain ⟨F', rfl⟩ : ∃ F', F = F' + 1 := ⟨F - 1, by omega⟩
    obtain ⟨G', rfl⟩ : ∃ G', G = G' + 1 := ⟨G - 1, by omega⟩
    obtain ⟨l1, l2⟩ := gd_le hg k (Nat.le_refl _)
    obtain ⟨v1, υ1, c1, c2⟩ := x_passStatement hB l2 hP
    obtain ⟨v2, ψx, d1, d2, ψ1, d3, d4, d5⟩ := y_statement (k := k) (a := sA n B k) hB hT (by omega) (by omega) h23
    have lst := stP_le (n := n) (B := B) (s := (sA n B k, false)) l2
    have f1 : FP ψ1 τ := ⟨fun x a b => (d4.1 x b).trans (hF.1 x a b), fun b a e => (congrFun (d4.1 103 (by decide)) b).trans (hF.2 b a e)⟩
    have e23 : ψ1 103 23 = nI k := (congrFun (d4.1 103 (by decide)) 23).trans h23
    rw [c1, call_some]
    unfold f_X11_puzzle_b34
    rw [d1, call_some, d2, d3, mv_s (by decide), e23]
    generalize hst : stP n B (sA n B k, false) = st at c2 d5 lst
    obtain ⟨p, bad⟩ := st
    obtain ⟨t1, t2, t3, t4, t5⟩ := c2
    cases bad with
    | true =>
      rw [if_pos (show b2 (!true) = 0 from rfl)]
      unfold f_X11_puzzle_b53
      rw [p_put_eq, f_X11_puzzle_b12, if_pos (show b2 (!true) = 0 from rfl)]
      refine ⟨false, p, υ1, _, ?_, rfl, ⟨t1, t2, t3, t4, t5⟩, lst, ⟨fun x a b => ?_, fun b a e => ?_⟩, ?_, fun u => by cases u⟩
      · rw [f_X7_readInto_b16, t2, if_neg (show ¬ b2 true = 0 by decide)]
        by_cases q : (64 : Int32) ≤ nI k
        · rw [if_pos q]
        · rw [if_neg q]
      · rw [up_a a, mv_o a]; exact f1.1 x a b
      · rw [up_n2 (by omega), mv_s a]; exact f1.2 b a e
      · rw [up_n2 (by omega)]; exact mv_at
    | false =>
      rw [if_neg (show ¬ b2 (!false) = 0 by decide)]
      unfold f_X11_puzzle_b53
      have es : sA n B (k + 1) = p := congrArg Prod.fst hst
      have hg1 : Gd n B (k + 1) := fun j hj => by
        rcases Nat.lt_or_ge j k with q | q
        · exact hg j q
        · have : j = k := by omega
          subst this
          rw [hst, es]
      have lek := (gd_le hg1 (k + 1) (Nat.le_refl _)).1
      have l4 := (sh_no (st_ok hst).1).1
      have hD1 : ∀ ψ2 : Sg, (∀ x, 116 ≤ x → x ≤ 120 → ψ2 x = ψ1 x) → ∀ j, j < k + 1 → DA ψ2 n B j (sA n B j) := fun ψ2 hψ j hj => by
        unfold DA
        rw [hψ 116 (by decide) (by decide), hψ 117 (by decide) (by decide), hψ 118 (by decide) (by decide), hψ 119 (by decide) (by decide), hψ 120 (by decide) (by decide)]
        rcases Nat.lt_or_ge j k with q | q
        · have := hD j q
          unfold DA at this
          rw [d4.2 116 j (by omega), d4.2 117 j (by omega), d4.2 118 j (by omega), d4.2 119 j (by omega), d4.2 120 j (by omega)]
          exact this
        · have : j = k := by omega
          subst this
          exact d5 rfl
      rw [p_put_eq, nI_1, f_X11_puzzle_b12, if_neg (show ¬ b2 (!false) = 0 by decide), f_X7_readInto_b16, if_neg (show ¬ (64 : Int32) ≤ nI k from nI_ge (a := k) (b := 64) (by omega) (by decide)), t2, if_pos (show b2 false = 0 from rfl), t1, t3]
      have m22 : sg_up (mvA ψ1 p) 103 23 (nI (k + 1)) 103 22 = nI p := by rw [up_n2 (by omega)]; exact mv_at
      have m21 : sg_up (mvA ψ1 p) 103 23 (nI (k + 1)) 103 21 = nI n := by
        rw [up_n2 (by omega), mv_s (by decide), congrFun (d4.1 103 (by decide)) 21]
        exact hT.1
      have m23 : sg_up (mvA ψ1 p) 103 23 (nI (k + 1)) 103 23 = nI (k + 1) := up_s2 ⟨rfl, rfl⟩
      have f2 : FP (sg_up (mvA ψ1 p) 103 23 (nI (k + 1))) τ := ⟨fun x a b => by rw [up_a a, mv_o a]; exact f1.1 x a b, fun b a e => by rw [up_n2 (by omega), mv_s a]; exact f1.2 b a e⟩
      rw [m22, m21, m23]
      rcases Nat.lt_or_ge p n with q | q
      · -- on to the next
        rw [if_neg (nI_ge q (by omega)), if_pos (nI_lt q (by omega))]
        have eψ : sg_up (mvA ψ1 p) 103 23 (nI (k + 1)) = mvA (sg_up ψ1 103 23 (nI (k + 1))) (sA n B (k + 1)) := by
          rw [es]
          funext x y
          unfold mvA sg_up
          by_cases z1 : x = 103 ∧ y = 23
          · rw [if_pos z1, if_neg (by omega), if_pos z1]
          · rw [if_neg z1, if_neg z1]
        rw [eψ, nI_1]
        refine pz_rd hB m (k + 1) F' G' υ1 _ (by omega) (by omega) (by omega) hg1 ?_ ⟨?_, fun j hj => ?_⟩ ⟨fun x a b => ?_, fun b a e => ?_⟩ ?_ (hD1 _ (fun x a b => up_a (by omega)))
        · rw [es]; exact ⟨t1, t2, t3, t4, t5⟩
        · rw [up_n2 (by omega), congrFun (d4.1 103 (by decide)) 21]; exact hT.1
        · rw [up_n2 (by omega), d4.1 115 (by decide)]; exact hT.2 j hj
        · rw [up_a a]; exact f1.1 x a b
        · rw [up_n2 (by omega)]; exact f1.2 b a e
        · exact up_s2 ⟨rfl, rfl⟩
      · -- the end
        have hpn : p = n := by
          have : p ≤ n := lst
          omega
        rw [if_pos (nI_le q (by have : p ≤ n := lst; omega)), if_neg (show ¬ nI p < nI n from nI_nlt (by omega) (by omega)), if_neg (show ¬ nI (k + 1) = 0 from fun e => by have := (nI_eq (a := k + 1) (b := 0) (by omega) (by decide)).mp e; omega)]
        exact ⟨true, p, υ1, _, rfl, rfl, ⟨t1, t2, t3, t4, t5⟩, lst, f2, m22, fun _ => ⟨k + 1, by omega, hg1, by omega, hpn, m23, hD1 _ (fun x a b => by rw [up_a (by omega)]; exact mv_o (by omega))⟩⟩
/-- the tape is empty, the game as it was -/
theorem puz_inv {υ ψ : Sg} (h : Inv i σ τ) (hU : ∀ x, x < 17 ∨ 32 < x → x ≠ 55 → υ x = σ x) (hF : FP ψ τ) : Inv i (sg_up υ 55 1 0) (sg_up ψ 103 21 0) := by
  obtain ⟨h1, h2, h3, h4, h5⟩ := Inv.iff.mp h
  have c : ∀ x, x < 17 ∨ 32 < x → x ≠ 55 → sg_up υ 55 1 0 x = σ x := fun x a b => by rw [up_a b]; exact hU x a b
  have d : ∀ x, x ≠ 103 → x < 116 ∨ 120 < x → sg_up ψ 103 21 0 x = τ x := fun x a b => by rw [up_a a]; exact hF.1 x a b
  have e : ∀ b, b ≠ 21 → b ≠ 22 → b ≠ 23 → sg_up ψ 103 21 0 103 b = τ 103 b := fun b x y z => by rw [up_n2 (by omega)]; exact hF.2 b y z
  refine Inv.iff.mpr ⟨h1.fr (fun a _ _ => c a (by omega) (by omega)) ⟨c 59 (by decide) (by decide), c 67 (by decide) (by decide), c 68 (by decide) (by decide)⟩ (gM_fr (fun a _ _ => d a (by omega) (by omega)) (fun b _ _ => e b (by omega) (by omega) (by omega))), h2.fr (fun a _ _ => c a (by omega) (by omega)) (by rw [c 0 (by decide) (by decide)]) (e 25 (by decide) (by decide) (by decide)) (fun b _ => by rw [d 121 (by decide) (by decide)]), ⟨0, by decide, up_s2 ⟨rfl, rfl⟩, up_s2 ⟨rfl, rfl⟩, fun j hj => absurd hj (Nat.not_lt_zero _)⟩, h4.fr (by rw [c 57 (by decide) (by decide)]) (c 58 (by decide) (by decide)) (e 39 (by decide) (by decide) (by decide)) (d 126 (by decide) (by decide)), h5.fr (c 102 (by decide) (by decide)) (d 104 (by decide) (by decide))⟩
theorem neg_tab : ∀ p, p < 65 → (-1000 : Int32) - nI p ≤ 0 ∧ (-2000 : Int32) - nI p ≤ 0 := by decide +kernel
theorem r_puzzle (h : Inv i σ τ) : Rl i (f_X10_puzzle 0 σ) (f_X11_puzzle 103 τ) := by
  obtain ⟨h1, h2, h3, h4, h5⟩ := Inv.iff.mp h
  obtain ⟨r, c, g1, g2, g3⟩ := h1
  obtain ⟨n, t1, t2, t3, t4⟩ := h3
  -- the bytes
  obtain ⟨B, hB0⟩ : ∃ B : Nat → Nat, ∀ j, j < n → B j < 256 ∧ τ 115 j = nI (B j) ∧ σ 56 j = nI (B j) := by
    refine ⟨fun j => (σ 56 j).toNatClampNeg, fun j hj => ?_⟩
    obtain ⟨b, b1, b2, b3⟩ := t4 j hj
    show (σ 56 j).toNatClampNeg < 256 ∧ τ 115 j = nI (σ 56 j).toNatClampNeg ∧ σ 56 j = nI (σ 56 j).toNatClampNeg
    rw [b3, nI_clamp (by omega)]
    exact ⟨b1, b2, rfl⟩
  have hB : TB n B := ⟨t1, fun j hj => (hB0 j hj).1⟩
  -- the draft
  obtain ⟨_, σ1, k1, k2, k3⟩ := x_copyG' (σ := σ) (k := 17) (k1 := 1) (by decide) g2 g1
  have hP : TP σ1 (sg_up (sg_up σ1 55 2 0) 55 3 0) n B (sA n B 0, false) := ⟨by simp (disch := omega) only [rdN, wrN, rdZ, wrZ, p_put_eq, call_some, nzN, boN, nI_1, nI_add, pk_mul, lit_4, lit_16, le_T, le_F, lt_T, lt_F, eq_T, eq_F, le_T0, le_F0, lt_F0, lt_T0, eq_T0, eq_F0, eqm_F, up_s2, up_n2, Ev_some, nz_0, nz_1, if_true, if_false, reduceIte, and_true, true_and, and_false, false_and, b2_0, b2_1, Bool.true_eq_false, Bool.false_eq_true, not_true_eq_false, not_false_eq_true]; rfl, by simp (disch := omega) only [rdN, wrN, rdZ, wrZ, p_put_eq, call_some, nzN, boN, nI_1, nI_add, pk_mul, lit_4, lit_16, le_T, le_F, lt_T, lt_F, eq_T, eq_F, le_T0, le_F0, lt_F0, lt_T0, eq_T0, eq_F0, eqm_F, up_s2, up_n2, Ev_some, nz_0, nz_1, if_true, if_false, reduceIte, and_true, true_and, and_false, false_and, b2_0, b2_1, Bool.true_eq_false, Bool.false_eq_true, not_true_eq_false, not_false_eq_true]; rfl, by rw [up_n2 (by omega), up_n2 (by omega), k2 55 (by decide)]; exact t3, fun j hj => by rw [up_n2 (by omega), up_n2 (by omega), k2 56 (by decide)]; exact (hB0 j hj).2.2, fun x hx => by rw [up_a hx, up_a hx]⟩
  have eψ : sg_up (sg_up τ 103 22 0) 103 23 0 = mvA (sg_up τ 103 23 0) (sA n B 0) := by
    funext x y
    unfold mvA sg_up
    by_cases z1 : x = 103 ∧ y = 23
    · rw [if_pos z1, if_neg (by omega), if_pos z1]
    · rw [if_neg z1, if_neg z1]; rfl
  have hF0 : FP (sg_up τ 103 23 0) τ := ⟨fun x a b => up_a a, fun b a e => up_n2 (by omega)⟩
  obtain ⟨ok, p, υ1, ψ1, o1, o2, o3, o4, o5, o6, o7⟩ := pz_rd (τ := τ) (σ0 := σ1) hB (n + 1) 0 fu 99999999 _ (sg_up τ 103 23 0) (by omega) (by unfold fu; omega) (by omega) (fun j hj => absurd hj (Nat.not_lt_zero _)) hP ⟨by rw [up_n2 (by omega)]; exact t2, fun j hj => by rw [up_n2 (by omega)]; exact (hB0 j hj).2.1⟩ hF0 (up_s2 ⟨rfl, rfl⟩) (fun j hj => absurd hj (Nat.not_lt_zero _))
  have eX : f_X7_readInto 55 17 σ1 = f_X7_readInto_b50 55 17 υ1 := by
    unfold f_X7_readInto
    rw [p_put_eq, bo0, p_put_eq]
    exact o1
  have eM : f_X11_puzzle 103 τ = f_X11_puzzle_b60 103 (b2 ok) ψ1 := by
    rw [← o2, ← eψ]
    unfold f_X11_puzzle
    rw [p_put_eq, p_put_eq, show fu = 99999999 + 1 from rfl, f_X11_puzzle_b12, if_neg (show ¬ (1 : Int32) = 0 by decide)]
    by_cases z : sg_up (sg_up τ 103 22 0) 103 23 0 103 22 < sg_up (sg_up τ 103 22 0) 103 23 0 103 21
    · rw [if_pos z]
    · rw [if_neg z, if_pos (up_s2 ⟨rfl, rfl⟩)]
  obtain ⟨p1, p2, p3, p4, p5⟩ := o3
  have hU : ∀ x, x < 17 ∨ 32 < x → x ≠ 55 → υ1 x = σ x := fun x a b => by rw [p5 x b]; exact k2 x (by omega)
  unfold f_X10_puzzle
  rw [show f_X3_copyFrom (0 + 17) (0 + 1) σ = _ from k1, call_some, show f_X7_readInto (0 + 55) (0 + 17) σ1 = _ from eX, eM]
  unfold f_X7_readInto_b50 f_X11_puzzle_b60
  rw [p_put_eq]
  cases ok with
  | false =>
    rw [p2, if_neg (show ¬ b2 (!false) = 0 by decide), call_some, p_put_eq, p1, if_pos (neg_tab p (by omega)).1, if_pos (show b2 false = 0 from rfl), up_n2 (by omega), o6]
    exact ⟨_, _, _, rfl, rfl, puz_inv h hU o5⟩
  | true =>
    obtain ⟨K, q1, q2, q3, q4, q5, q6⟩ := o7 rfl
    rw [p2, if_pos (show b2 (!true) = 0 from rfl), if_neg (show ¬ b2 true = 0 by decide)]
    have hK16 : K ≤ 16 := by have := (gd_le q2 K (Nat.le_refl _)).1; omega
    have I1 := puz_inv h hU o5
    generalize hψ2 : sg_up ψ1 103 21 0 = ψ2 at I1 ⊢
    have f2 : ∀ x, x ≠ 103 → ψ2 x = ψ1 x := fun x a => by rw [← hψ2, up_a a]
    have f3 : ∀ b, b ≠ 21 → ψ2 103 b = ψ1 103 b := fun b a => by rw [← hψ2, up_n2 (by omega)]
    obtain ⟨_, φ0, m1, m2⟩ := y_keepAll (τ := ψ2) (k := 103) (w := 1) (by decide)
    have r1 : ∀ a, a ≠ 103 → a ≠ 121 → φ0 a = ψ2 a := fun a x y => by rw [m2.1 a x y, up_a x, up_a x]
    have r2 : ∀ b, b ≠ 26 → b ≠ 27 → φ0 103 b = ψ2 103 b := fun b x y => by rw [m2.2.1 b y, up_n2 (by omega), up_n2 (by omega)]
    have r3 : ∀ b, b < 200 → φ0 121 b = ψ2 121 b := fun b x => by
      have := m2.2.2.2.1 b (.inl (by omega))
      rw [show φ0 121 b = _ from this, up_n2 (by omega), up_n2 (by omega)]
    have eG : EqA (gM φ0) (gM τ) := gM_fr (fun a _ _ => by rw [r1 a (by omega) (by omega), f2 a (by omega)]; exact o5.1 a (by omega) (by omega)) (fun b _ _ => by rw [r2 b (by omega) (by omega), f3 b (by omega)]; exact o5.2 b (by omega) (by omega))
    have hA : AppR i υ1 φ0 υ1 φ0 := ⟨⟨r, c, g1.cg eG, (k3.cg eG).fr (fun j _ _ => p5 _ (by omega))⟩, fun _ _ => rfl, fun _ _ _ => rfl, fun _ _ => rfl⟩
    have hD0 : ∀ j, j < K → DA φ0 n B j (sA n B j) := fun j hj => by
      have := q6 j hj
      unfold DA at this ⊢
      rw [r1 116 (by decide) (by decide), r1 117 (by decide) (by decide), r1 118 (by decide) (by decide), r1 119 (by decide) (by decide), r1 120 (by decide) (by decide), f2 116 (by decide), f2 117 (by decide), f2 118 (by decide), f2 119 (by decide), f2 120 (by decide)]
      exact this
    obtain ⟨v, υ2, φ2, a1, a2, a3⟩ := app_all hB q2 q3 p4 p3 hD0 (by rw [r2 23 (by decide) (by decide), f3 23 (by decide)]; exact q5) K 0 fu fu υ1 φ0 (by omega) (by show n < fu + 0; unfold fu; omega) (by unfold fu; omega) hA
    rw [show f_X11_passesAll 103 1 1 ψ2 = _ from m1, call_some]
    unfold f_X7_obeyAll
    rw [show f_X7_obeyAll_b7 55 17 fu 0 0 0 υ1 = _ from a1, call_some, call_some, p_put_eq]
    obtain ⟨⟨r', c', b1, b2'⟩, b3, b4, b5⟩ := a2
    have hU2 : ∀ x, x < 17 ∨ 32 < x → x ≠ 55 → υ2 x = σ x := fun x a b => by rw [b3 x a]; exact hU x a b
    rcases a3 with ⟨w1, w2⟩ | ⟨j, w0, w1, w2⟩
    · -- all came
      rw [w1, if_neg (show ¬ nI K ≤ 0 from nI_ge (a := 0) (b := K) (by omega) (by omega)), show f_X11_puzzle_b86 103 fu 0 φ0 = _ from w2]
      obtain ⟨_, σ3, n1, n2, n3⟩ := x_copyG' (σ := sg_up υ2 55 1 0) (k := 1) (k1 := 17) (by decide) (b2'.fr (fun j _ _ => up_a (by omega))) b1
      rw [show f_X3_copyFrom (0 + 1) (0 + 17) (sg_up υ2 (0 + 55) 1 0) = _ from n1, call_some, bo0, p_put_eq]
      refine ⟨_, _, _, rfl, rfl, Inv.iff.mpr ⟨⟨r', c', b1, n3.fr (fun j _ _ => up_a (by omega)), .inl (up_s2 ⟨rfl, rfl⟩)⟩, ?_, ?_, ?_, ?_⟩⟩
      · have cc : ∀ x, x < 2 ∨ 32 < x → x ≠ 55 → x ≠ 59 → sg_up σ3 (0 + 59) 2 0 x = σ x := fun x a b d => by rw [up_a (by omega), n2 x (by omega), up_a b]; exact hU2 x (by omega) b
        exact h2.fr (fun a _ _ => cc a (by omega) (by omega) (by omega)) (by rw [cc 0 (by decide) (by decide) (by decide)]) (by rw [b5 25 (by decide), r2 25 (by decide) (by decide), f3 25 (by decide)]; exact o5.2 25 (by decide) (by decide)) (fun b hb => by rw [b4 121 (by decide) (by decide), r3 b hb, f2 121 (by decide), o5.1 121 (by decide) (by decide)])
      · refine ⟨0, by decide, ?_, ?_, fun j hj => absurd hj (Nat.not_lt_zero _)⟩
        · rw [b5 21 (by decide), r2 21 (by decide) (by decide), ← hψ2]; exact up_s2 ⟨rfl, rfl⟩
        · rw [up_n2 (by omega), n2 55 (by decide)]; exact up_s2 ⟨rfl, rfl⟩
      · have cc : ∀ x, x < 2 ∨ 32 < x → x ≠ 55 → x ≠ 59 → sg_up σ3 (0 + 59) 2 0 x = σ x := fun x a b d => by rw [up_a (by omega), n2 x (by omega), up_a b]; exact hU2 x (by omega) b
        exact h4.fr (by rw [cc 57 (by decide) (by decide) (by decide)]) (cc 58 (by decide) (by decide) (by decide)) (by rw [b5 39 (by decide), r2 39 (by decide) (by decide), f3 39 (by decide)]; exact o5.2 39 (by decide) (by decide)) (by rw [b4 126 (by decide) (by decide), r1 126 (by decide) (by decide), f2 126 (by decide)]; exact o5.1 126 (by decide) (by decide))
      · have cc : ∀ x, x < 2 ∨ 32 < x → x ≠ 55 → x ≠ 59 → sg_up σ3 (0 + 59) 2 0 x = σ x := fun x a b d => by rw [up_a (by omega), n2 x (by omega), up_a b]; exact hU2 x (by omega) b
        exact h5.fr (cc 102 (by decide) (by decide) (by decide)) (by rw [b4 104 (by decide) (by decide), r1 104 (by decide) (by decide), f2 104 (by decide)]; exact o5.1 104 (by decide) (by decide))
    · -- one did not
      have ls := (gd_le q2 j (by omega)).2
      rw [w1, if_pos (neg_tab (sA n B j) (by omega)).2, show f_X11_puzzle_b86 103 fu 0 φ0 = _ from w2]
      obtain ⟨_, φ3, n1, n2⟩ := y_backAll (υ := φ2) (k := 103) (w := 1) (by decide)
      rw [show f_X11_passesAll 103 1 0 φ2 = _ from n1, call_some, rdN (by omega) (by decide)]
      have e117 : φ3 (103 + 14) j = nI (sA n B j) := by
        rw [n2.1 (103 + 14) (by decide) (by decide), up_a (by decide), up_a (by decide), b4 (103 + 14) (by decide) (by decide)]
        exact (hD0 j w0).2.1
      rw [e117]
      refine ⟨_, _, _, rfl, rfl, ?_⟩
      have I2 := puz_inv h hU2 o5
      rw [hψ2] at I2
      refine I2.sc Xs.refl (FRs.ms (E := fun _ => false) (D := fun _ => false) (kept_back m2 (fun x y z w => ?_) ?_ (fun b' x y z w => ?_) n2) (by decide) (by decide))
      · exact b4 x y (by omega)
      · exact b4 _ (by decide) (by decide)
      · exact b5 b' (by omega)
end TW
