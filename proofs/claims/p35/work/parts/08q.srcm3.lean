/-! the reference's findWays: it comes to allW, and leaves the game as it was -/
/-- the reference is as it was but for what is scratch: what is kept at 1, cursor, isKeeping, and cells and slots of E -/
def FRs (τ υ : Sg) (k : Nat) (E : Nat → Bool) (D : Nat → Bool) : Prop := (∀ a, a ≠ k → a ≠ k + 18 → (a < k + 2 ∨ k + 11 < a) → E a = false → υ a = τ a) ∧ (∀ b, b ≠ 26 → b ≠ 27 → (b < 11 ∨ 14 < b) → D b = false → υ k b = τ k b) ∧ (∀ b, b < 200 → υ (k + 18) b = τ (k + 18) b) ∧ (∀ j, j < 7 → ∀ i, i < 16 → υ (k + 2 + j) i = τ (k + 2 + j) i) ∧ (∀ j, j < 3 → ∀ i, i < 6 → υ (k + 9 + j) i = τ (k + 9 + j) i) ∧ ∀ i, i < 4 → υ k (11 + i) = τ k (11 + i)
/-- kept, changed, brought back -/
theorem kept_back {τ τ1 τ2 υ : Sg} {k : Nat} {E D : Nat → Bool} (h1 : Kst τ1 (sg_up (sg_up τ k 27 (nI (200 * 1))) k 26 1) k 1 134) (h2 : ∀ a, a ≠ k → (a < k + 2 ∨ k + 11 < a) → E a = false → τ2 a = τ1 a) (h2' : τ2 (k + 18) = τ1 (k + 18)) (h3 : ∀ b, b ≠ 26 → b ≠ 27 → (b < 11 ∨ 14 < b) → D b = false → τ2 k b = τ1 k b) (h4 : Bst υ (sg_up (sg_up τ2 k 27 (nI (200 * 1))) k 26 0) k 1 134) : FRs τ υ k E D := by
  obtain ⟨a1, a2, a3, a4, a5⟩ := h1
  obtain ⟨b1, b2, b3, b4, b5, b6⟩ := h4
  have kk : ∀ b, b < 134 → υ (k + 18) (200 * 1 + b) = kv τ k b := fun b hb => by
    rw [b1 (k + 18) (by omega) (by omega), up_a (by omega), up_a (by omega), h2', a5 b hb]
    unfold kv
    rw [up_a (by omega), up_a (by omega)]
    by_cases x : b < 112
    · rw [if_pos x, if_pos x]
    · rw [if_neg x, if_neg x]
      by_cases y : b < 130
      · rw [if_pos y, if_pos y, up_a (by omega), up_a (by omega)]
      · rw [if_neg y, if_neg y, up_n2 (by omega), up_n2 (by omega)]
  have k18 : ∀ b, υ (k + 18) b = (sg_up (sg_up τ2 k 27 (nI (200 * 1))) k 26 0) (k + 18) b := fun b => by rw [b1 (k + 18) (by omega) (by omega)]
  refine ⟨fun a x y z e => ?_, fun b x y z e => ?_, fun b x => ?_, fun j hj i hi => ?_, fun j hj i hi => ?_, fun i hi => ?_⟩
  · rw [b1 a x z, up_a (by omega), up_a (by omega), h2 a x z e, a1 a x y, up_a (by omega), up_a (by omega)]
  · rw [b2 b y z, up_n2 (by omega), up_n2 (by omega), h3 b x y z e, a2 b y, up_n2 (by omega), up_n2 (by omega)]
  · rw [k18, up_a (by omega), up_a (by omega), h2', a4 b (by omega), up_a (by omega), up_a (by omega)]
  · rw [b4 j hj i hi (by omega), ← k18, kk _ (by omega)]
    unfold kv
    rw [if_pos (by omega), show (16 * j + i) / 16 = j by omega, show (16 * j + i) % 16 = i by omega]
  · rw [b5 j hj i hi (by omega), ← k18, kk _ (by omega)]
    unfold kv
    rw [if_neg (by omega), if_pos (by omega), show (112 + 6 * j + i - 112) / 6 = j by omega, show (112 + 6 * j + i - 112) % 6 = i by omega]
  · rw [b6 i hi (by omega), ← k18, kk _ (by omega)]
    unfold kv
    rw [if_neg (by omega), if_neg (by omega), show 130 + i - 130 = i by omega]
section SM3
variable {k r c : Nat}
theorem sdv_cg {ri dn ri' dn' : Nat → Int32} {r c p s : Nat} (h1 : 2 ≤ r ∧ r < 5) (h2 : 2 ≤ c ∧ c < 5) (hp : p < r * c) (hs : s < 4) (h : ∀ q, q < 16 → ri' q = ri q ∧ dn' q = dn q) : sdv ri' dn' r c p s = sdv ri dn r c p s := by
  have hrc := rc16 h1 h2
  unfold sdv
  cases hb : bs r c p s with
  | none => rfl
  | some q =>
    have hq := bs_lt h1 h2 hp hs hb
    show (if s = 1 then ri' p else if s = 2 then dn' p else if s = 0 then -(dn' q) else -(ri' q)) = (if s = 1 then ri p else if s = 2 then dn p else if s = 0 then -(dn q) else -(ri q))
    rw [(h p (by omega)).1, (h p (by omega)).2, (h q (by omega)).1, (h q (by omega)).2]
theorem y_findWays {τ : Sg} (hz : Sz τ k r c) : Ev (f_X11_findWays k τ) (fun _ υ => FRs τ υ k (fun a => decide (a = k + 19) || decide (a = k + 20)) (fun b => decide (30 ≤ b) && decide (b ≤ 32)) ∧ RS υ k (r * c) (allW (τ (k + 2)) (τ (k + 3)) r c)) := by
  have hrc := hz.rc
  have hpos : 4 ≤ r * c := Nat.mul_le_mul hz.2.2.1.1 hz.2.2.2.1
  unfold f_X11_findWays
  refine Ev.call (show Ev (f_X11_passesAll k (nI 1) 1 τ) _ from y_keepAll (by decide)) (fun _ τ1 h1 => ?_)
  -- the exit
  have ex : ∀ (τ2 : Sg) (s : SS), (∀ a, a ≠ k → a ≠ k + 5 → a ≠ k + 6 → a ≠ k + 19 → a ≠ k + 20 → τ2 a = τ1 a) → (∀ b, b < 30 ∨ 32 < b → τ2 k b = τ1 k b) → RS τ2 k (r * c) s → Ev (f_X11_findWays_b299 k τ2) (fun _ υ => FRs τ υ k (fun a => decide (a = k + 19) || decide (a = k + 20)) (fun b => decide (30 ≤ b) && decide (b ≤ 32)) ∧ RS υ k (r * c) s) := by
    intro τ2 s g1 g2 g3
    unfold f_X11_findWays_b299
    refine Ev.call (show Ev (f_X11_passesAll k (nI 1) 0 τ2) _ from y_backAll (by decide)) (fun _ υ h4 => ?_)
    rw [Ev_some]
    refine ⟨kept_back h1 (fun a x y z => ?_) (g1 _ (by omega) (by omega) (by omega) (by omega) (by omega)) (fun b x y z w => ?_) h4, ?_⟩
    · simp only [Bool.or_eq_false_iff, decide_eq_false_iff_not] at z
      exact g1 a x (by omega) (by omega) z.1 z.2
    · simp only [Bool.and_eq_false_iff, decide_eq_false_iff_not] at w
      exact g2 b (by omega)
    · obtain ⟨b1, b2, -⟩ := h4
      exact g3.fr (by rw [b2 31 (by decide) (by decide)]; simp (disch := omega) only [rdN, wrN, rdZ, wrZ, p_put_eq, call_some, nzN, boN, nI_1, nI_add, pk_mul, lit_4, lit_16, le_T, le_F, lt_T, lt_F, eq_T, eq_F, le_T0, le_F0, lt_F0, lt_T0, eq_T0, eq_F0, eqm_F, up_s2, up_n2, Ev_some, nz_0, nz_1, if_true, if_false, reduceIte, and_true, true_and, and_false, false_and, b2_0, b2_1, Bool.true_eq_false, Bool.false_eq_true, not_true_eq_false, not_false_eq_true]) (by rw [b2 30 (by decide) (by decide)]; simp (disch := omega) only [rdN, wrN, rdZ, wrZ, p_put_eq, call_some, nzN, boN, nI_1, nI_add, pk_mul, lit_4, lit_16, le_T, le_F, lt_T, lt_F, eq_T, eq_F, le_T0, le_F0, lt_F0, lt_T0, eq_T0, eq_F0, eqm_F, up_s2, up_n2, Ev_some, nz_0, nz_1, if_true, if_false, reduceIte, and_true, true_and, and_false, false_and, b2_0, b2_1, Bool.true_eq_false, Bool.false_eq_true, not_true_eq_false, not_false_eq_true]) (by rw [b2 32 (by decide) (by decide)]; simp (disch := omega) only [rdN, wrN, rdZ, wrZ, p_put_eq, call_some, nzN, boN, nI_1, nI_add, pk_mul, lit_4, lit_16, le_T, le_F, lt_T, lt_F, eq_T, eq_F, le_T0, le_F0, lt_F0, lt_T0, eq_T0, eq_F0, eqm_F, up_s2, up_n2, Ev_some, nz_0, nz_1, if_true, if_false, reduceIte, and_true, true_and, and_false, false_and, b2_0, b2_1, Bool.true_eq_false, Bool.false_eq_true, not_true_eq_false, not_false_eq_true]) (by rw [b1 _ (by omega) (by omega), up_a (by omega), up_a (by omega)]) (by rw [b1 _ (by omega) (by omega), up_a (by omega), up_a (by omega)])
  -- what is kept doesn't change the sides
  have c2 : τ1 (k + 2) = τ (k + 2) := by rw [h1.1 _ (by omega) (by omega), up_a (by omega), up_a (by omega)]
  have c3 : τ1 (k + 3) = τ (k + 3) := by rw [h1.1 _ (by omega) (by omega), up_a (by omega), up_a (by omega)]
  have z1 : Sz τ1 k r c := by
    unfold Sz
    rw [h1.2.1 11 (by decide), h1.2.1 12 (by decide), up_n2 (by omega), up_n2 (by omega), up_n2 (by omega), up_n2 (by omega)]
    exact hz
  refine lp_ev (L := fun n i υ => f_X11_findWays_b8 k n (nI i) υ) (m := 16) (I := fun n υ => (∀ a, a ≠ k + 5 → υ a = τ1 a) ∧ ∀ i, i < n → υ (k + 5) i = -1) (fun n υ h => ?_) (fun n i υ hi h ih => ?_) fu 0 τ1 (by decide) (fu_lt (by decide)) ⟨fun _ _ => rfl, fun i h => absurd h (Nat.not_lt_zero _)⟩
  · show Ev (f_X11_findWays_b8 k (n + 1) (nI 16) υ) _
    rw [f_X11_findWays_b8]
    simp (disch := omega) only [rdN, wrN, rdZ, wrZ, p_put_eq, call_some, nzN, boN, nI_1, nI_add, pk_mul, lit_4, lit_16, le_T, le_F, lt_T, lt_F, eq_T, eq_F, le_T0, le_F0, lt_F0, lt_T0, eq_T0, eq_F0, eqm_F, up_s2, up_n2, Ev_some, nz_0, nz_1, if_true, if_false, reduceIte, and_true, true_and, and_false, false_and, b2_0, b2_1, Bool.true_eq_false, Bool.false_eq_true, not_true_eq_false, not_false_eq_true, bo0]
    obtain ⟨g1, g2⟩ := h
    have e0 : (nI 0 : Int32) = 0 := rfl
    have hk5 : ∀ a, a ≠ k + 5 → a ≠ k → (sg_up (sg_up (sg_up υ k 30 0) k 31 0) k 32 0) a = τ1 a := fun a x y => by rw [up_a y, up_a y, up_a y, g1 a x]
    have hkk : ∀ b, b < 30 ∨ 32 < b → (sg_up (sg_up (sg_up υ k 30 0) k 31 0) k 32 0) k b = τ1 k b := fun b x => by rw [up_n2 (by omega), up_n2 (by omega), up_n2 (by omega), g1 k (by omega)]
    have M : RM (sg_up (sg_up (sg_up υ k 30 0) k 31 0) k 32 0) k (fun _ => -1) (fun _ => 0) := fun o ho => by
      rw [up_a (by omega), up_a (by omega), up_a (by omega)]
      exact ⟨g2 o ho, .inl rfl⟩
    have S : RS (sg_up (sg_up (sg_up υ k 30 0) k 31 0) k 32 0) k (r * c) (0, 0, (fun _ => 0), (fun _ => 0)) := ⟨by simp (disch := omega) only [rdN, wrN, rdZ, wrZ, p_put_eq, call_some, nzN, boN, nI_1, nI_add, pk_mul, lit_4, lit_16, le_T, le_F, lt_T, lt_F, eq_T, eq_F, le_T0, le_F0, lt_F0, lt_T0, eq_T0, eq_F0, eqm_F, up_s2, up_n2, Ev_some, nz_0, nz_1, if_true, if_false, reduceIte, and_true, true_and, and_false, false_and, b2_0, b2_1, Bool.true_eq_false, Bool.false_eq_true, not_true_eq_false, not_false_eq_true]; rfl, by simp (disch := omega) only [rdN, wrN, rdZ, wrZ, p_put_eq, call_some, nzN, boN, nI_1, nI_add, pk_mul, lit_4, lit_16, le_T, le_F, lt_T, lt_F, eq_T, eq_F, le_T0, le_F0, lt_F0, lt_T0, eq_T0, eq_F0, eqm_F, up_s2, up_n2, Ev_some, nz_0, nz_1, if_true, if_false, reduceIte, and_true, true_and, and_false, false_and, b2_0, b2_1, Bool.true_eq_false, Bool.false_eq_true, not_true_eq_false, not_false_eq_true]; rfl, by simp (disch := omega) only [rdN, wrN, rdZ, wrZ, p_put_eq, call_some, nzN, boN, nI_1, nI_add, pk_mul, lit_4, lit_16, le_T, le_F, lt_T, lt_F, eq_T, eq_F, le_T0, le_F0, lt_F0, lt_T0, eq_T0, eq_F0, eqm_F, up_s2, up_n2, Ev_some, nz_0, nz_1, if_true, if_false, reduceIte, and_true, true_and, and_false, false_and, b2_0, b2_1, Bool.true_eq_false, Bool.false_eq_true, not_true_eq_false, not_false_eq_true]; rfl, fun x => absurd x (Nat.lt_irrefl _)⟩
    generalize sg_up (sg_up (sg_up υ k 30 0) k 31 0) k 32 0 = υ1 at hk5 hkk M S
    have hz1 : Sz υ1 k r c := by
      unfold Sz
      rw [hkk 11 (by decide), hkk 12 (by decide)]
      exact z1
    have r1 : υ1 (k + 2) = τ (k + 2) := (hk5 _ (by omega) (by omega)).trans c2
    have d1 : υ1 (k + 3) = τ (k + 3) := (hk5 _ (by omega) (by omega)).trans c3
    have U0 : Us 0 (fun _ => -1) (r * c) := fun p hp => by
      rw [b_0]
      cases hb : laidB (fun _ => (-1 : Int32)) (r * c) (nI p) with
      | false => rfl
      | true =>
        obtain ⟨q, -, e⟩ := laidB_iff.mp hb
        exact absurd e.symm (nI_nm1 (by omega))
    obtain ⟨d, hd⟩ : ∃ d, r * c = d + 1 := ⟨r * c - 1, by omega⟩
    have hall : allW (τ (k + 2)) (τ (k + 3)) r c = sr_c (goB (τ (k + 2)) (τ (k + 3)) (fun _ => -1) (fun _ => 0) r c d 0) (frB (fun _ => -1) r c) (ftB (τ (k + 2)) (τ (k + 3)) (fun _ => -1) (fun _ => 0) r c 0) (4 * (r * c)) 0 (0, 0, (fun _ => 0), (fun _ => 0)) := by
      unfold allW
      rw [show sr (τ (k + 2)) (τ (k + 3)) r c (r * c) = sr (τ (k + 2)) (τ (k + 3)) r c (d + 1) by rw [hd], sr, show r * c - (d + 1) = 0 by omega]
      rfl
    have hle : Sle (0, 0, (fun _ => 0), (fun _ => 0)) (allW (τ (k + 2)) (τ (k + 3)) r c) := by
      rw [hall]
      exact sr_c_le (fun p t s' a b => sr_le d _ _ s' a b) _ _ _ (Nat.le_refl _) (by decide)
    refine (z_all d) 0 (fun _ => -1) (fun _ => 0) _ (by omega) ⟨fun o ho => absurd ho (Nat.not_lt_zero _), fun o _ _ => rfl⟩ (4 * (r * c)) 0 fu υ1 0 (0, 0, (fun _ => 0), (fun _ => 0)) (by omega) hz1 r1 d1 M S U0 (Nat.le_refl _) (by decide) (by unfold fu; show 4 * (r * c) + 65 * (20001 - 0) + 2 ≤ 100000000; omega) ?_ ?_
    · intro F' τ' x' b b2 b3 b4 b5 b6
      rw [← hall] at b b2 b5
      have b' : fu ≤ F' + 4 * (r * c) + 65 * ((allW (τ (k + 2)) (τ (k + 3)) r c).1 - 0) := b
      have hF2 : 2 ≤ F' := by unfold fu at b'; omega
      obtain ⟨F3, rfl⟩ : ∃ F3, F' = F3 + 1 + 1 := ⟨F' - 2, by omega⟩
      have hz3 := b3.sz hz1
      rw [f_X11_findWays_b48, b5.1]
      simp (disch := omega) only [rdN, wrN, rdZ, wrZ, p_put_eq, call_some, nzN, boN, nI_1, nI_add, pk_mul, lit_4, lit_16, le_T, le_F, lt_T, lt_F, eq_T, eq_F, le_T0, le_F0, lt_F0, lt_T0, eq_T0, eq_F0, eqm_F, up_s2, up_n2, Ev_some, nz_0, nz_1, if_true, if_false, reduceIte, and_true, true_and, and_false, false_and, b2_0, b2_1, Bool.true_eq_false, Bool.false_eq_true, not_true_eq_false, not_false_eq_true, show (20000 : Int32) = nI 20000 from rfl, y_cells hz3, f_X11_findWays_b80, f_X11_findWays_b156]
      rw [show ((nI 0 : Int32) + -1) = -1 from by decide, if_neg (by decide), f_X11_findWays_b48, if_pos (by decide)]
      exact ex τ' _ (fun a x1 x2 x3 x4 x5 => (b3.1 a x1 x2 x3 x4 x5).trans (hk5 a x2 x1)) (fun b x => (b3.2 b x).trans (hkk b x)) b5
    · intro τ' b b2 b3
      rw [← hall] at b b3
      exact ex τ' _ (fun a x1 x2 x3 x4 x5 => (b2.1 a x1 x2 x3 x4 x5).trans (hk5 a x2 x1)) (fun b x => (b2.2 b x).trans (hkk b x)) b3
  · show Ev (f_X11_findWays_b8 k (n + 1) (nI i) υ) _
    rw [f_X11_findWays_b8]
    simp (disch := omega) only [rdN, wrN, rdZ, wrZ, p_put_eq, call_some, nzN, boN, nI_1, nI_add, pk_mul, lit_4, lit_16, le_T, le_F, lt_T, lt_F, eq_T, eq_F, le_T0, le_F0, lt_F0, lt_T0, eq_T0, eq_F0, eqm_F, up_s2, up_n2, Ev_some, nz_0, nz_1, if_true, if_false, reduceIte, and_true, true_and, and_false, false_and, b2_0, b2_1, Bool.true_eq_false, Bool.false_eq_true, not_true_eq_false, not_false_eq_true]
    refine ih _ ⟨fun a x => by rw [up_a x]; exact h.1 a x, fun j hj => ?_⟩
    by_cases e : j = i
    · simp (disch := omega) only [rdN, wrN, rdZ, wrZ, p_put_eq, call_some, nzN, boN, nI_1, nI_add, pk_mul, lit_4, lit_16, le_T, le_F, lt_T, lt_F, eq_T, eq_F, le_T0, le_F0, lt_F0, lt_T0, eq_T0, eq_F0, eqm_F, up_s2, up_n2, Ev_some, nz_0, nz_1, if_true, if_false, reduceIte, and_true, true_and, and_false, false_and, b2_0, b2_1, Bool.true_eq_false, Bool.false_eq_true, not_true_eq_false, not_false_eq_true, e]
    · simp (disch := omega) only [rdN, wrN, rdZ, wrZ, p_put_eq, call_some, nzN, boN, nI_1, nI_add, pk_mul, lit_4, lit_16, le_T, le_F, lt_T, lt_F, eq_T, eq_F, le_T0, le_F0, lt_F0, lt_T0, eq_T0, eq_F0, eqm_F, up_s2, up_n2, Ev_some, nz_0, nz_1, if_true, if_false, reduceIte, and_true, true_and, and_false, false_and, b2_0, b2_1, Bool.true_eq_false, Bool.false_eq_true, not_true_eq_false, not_false_eq_true, h.2 j (by omega)]
end SM3
