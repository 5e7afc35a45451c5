/-! the reference goes through the ways (the rows on bits, up to b_sshr, are the kit's, given for pasting) -/
def bt (x : Int32) (i : Nat) : Bool := x.toBitVec.getLsbD i
theorem b_ext {x y : Int32} (h : ∀ i, i < 32 → bt x i = bt y i) : x = y := Int32.toBitVec_inj.mp (BitVec.eq_of_getLsbD_eq (fun i hi => h i hi))
theorem b_or (x y : Int32) (i : Nat) : bt (x ||| y) i = (bt x i || bt y i) := by unfold bt; rw [Int32.toBitVec_or, BitVec.getLsbD_or]
theorem b_and (x y : Int32) (i : Nat) : bt (x &&& y) i = (bt x i && bt y i) := by unfold bt; rw [Int32.toBitVec_and, BitVec.getLsbD_and]
theorem b_xor (x y : Int32) (i : Nat) : bt (x ^^^ y) i = (bt x i ^^ bt y i) := by unfold bt; rw [Int32.toBitVec_xor, BitVec.getLsbD_xor]
theorem b_big {x : Int32} {i : Nat} (h : 32 ≤ i) : bt x i = false := BitVec.getLsbD_of_ge _ _ h

theorem b_m1 : ∀ i, i < 32 → bt (-1) i = true := by decide +kernel
theorem b_0 (i : Nat) : bt 0 i = false := BitVec.getLsbD_zero
theorem s_l : ∀ n, n < 32 → ((nI n &&& 31).toBitVec.smod 32).toNat = n := by decide +kernel

theorem b_shl (n : Nat) (hn : n < 32) (x : Int32) {i : Nat} (hi : i < 32) : bt (x <<< (nI n &&& 31)) i = (decide (n ≤ i) && bt x (i - n)) := by
  unfold bt
  rw [Int32.toBitVec_shiftLeft]
  show (x.toBitVec <<< ((nI n &&& 31).toBitVec.smod 32).toNat).getLsbD i = _
  rw [s_l n hn, BitVec.getLsbD_shiftLeft]
  rcases Nat.lt_or_ge i n with h | h
  · simp [h, Nat.not_le.mpr h]
  · simp [hi, h, Nat.not_lt.mpr h]

theorem b_sshr (n : Nat) (hn : n < 32) (x : Int32) {i : Nat} (hi : i < 32) : bt (x >>> (nI n &&& 31)) i = if n + i < 32 then bt x (n + i) else bt x 31 := by
  unfold bt
  rw [Int32.toBitVec_shiftRight]
  show (x.toBitVec.sshiftRight ((nI n &&& 31).toBitVec.smod 32).toNat).getLsbD i = _
  rw [s_l n hn, BitVec.getLsbD_sshiftRight, BitVec.msb_eq_getLsbD_last]
  simp [hi]

theorem b_1 : ∀ i, i < 32 → bt 1 i = decide (i = 0) := by decide +kernel
theorem bit_at {x : Int32} {p : Nat} (hp : p < 32) : (x >>> (nI p &&& 31)) &&& 1 = b2 (bt x p) := by
  refine b_ext (fun i hi => ?_)
  rw [b_and, b_sshr p hp x hi, b_1 i hi]
  by_cases e : i = 0
  · subst e
    rw [if_pos (by omega), Nat.add_zero]
    cases bt x p <;> decide
  · rw [decide_eq_false e, Bool.and_false]
    cases bt x p
    · exact (b_0 i).symm
    · show false = bt 1 i
      rw [b_1 i hi, decide_eq_false e]
theorem bit_or {x : Int32} {p p' : Nat} (hp : p < 32) (hp' : p' < 32) : bt (x ||| (1 <<< (nI p &&& 31))) p' = (bt x p' || decide (p' = p)) := by
  rw [b_or, b_shl p hp 1 hp']
  congr 1
  rcases Nat.lt_or_ge p' p with u | u
  · rw [decide_eq_false (show ¬ p ≤ p' by omega), decide_eq_false (show ¬ p' = p by omega)]; rfl
  · rw [decide_eq_true u, b_1 _ (by omega), Bool.true_and]
    exact decide_eq_decide.mpr (by omega)
theorem bit_and {x : Int32} {p p' : Nat} (hp : p < 32) (hp' : p' < 32) : bt (x &&& ((1 <<< (nI p &&& 31)) ^^^ (-1))) p' = (bt x p' && !decide (p' = p)) := by
  rw [b_and, b_xor, b_m1 p' hp', b_shl p hp 1 hp']
  congr 1
  rcases Nat.lt_or_ge p' p with u | u
  · rw [decide_eq_false (show ¬ p ≤ p' by omega), decide_eq_false (show ¬ p' = p by omega)]; rfl
  · rw [decide_eq_true u, b_1 _ (by omega), Bool.true_and, show decide (p' - p = 0) = decide (p' = p) from decide_eq_decide.mpr (by omega)]
    cases decide (p' = p) <;> rfl
/-- the reference's board is pc, tn -/
def RM (τ : Sg) (k : Nat) (pc tn : Nat → Int32) : Prop := ∀ o, o < 16 → τ (k + 5) o = pc o ∧ (pc o = -1 ∨ τ (k + 6) o = tn o)
def RS (τ : Sg) (k m : Nat) (s : SS) : Prop := τ k 31 = nI s.1 ∧ τ k 30 = nI s.2.1 ∧ τ k 32 = b2 (decide (0 < s.2.1)) ∧ (0 < s.2.1 → ∀ q, q < m → τ (k + 19) q = s.2.2.1 q ∧ τ (k + 20) q = s.2.2.2 q)
def Us (x : Int32) (pc : Nat → Int32) (m : Nat) : Prop := ∀ p, p < 16 → bt x p = laidB pc m (nI p)
def FW (τ υ : Sg) (k : Nat) : Prop := (∀ a, a ≠ k → a ≠ k + 5 → a ≠ k + 6 → a ≠ k + 19 → a ≠ k + 20 → υ a = τ a) ∧ ∀ b, b < 30 ∨ 32 < b → υ k b = τ k b
theorem FW.refl {τ : Sg} {k : Nat} : FW τ τ k := ⟨fun _ _ _ _ _ _ => rfl, fun _ _ => rfl⟩
theorem FW.trans {τ υ φ : Sg} {k : Nat} (h : FW τ υ k) (g : FW υ φ k) : FW τ φ k := ⟨fun a x1 x2 x3 x4 x5 => (g.1 a x1 x2 x3 x4 x5).trans (h.1 a x1 x2 x3 x4 x5), fun b x => (g.2 b x).trans (h.2 b x)⟩
theorem FW.up {τ υ : Sg} {k a i : Nat} {v : Int32} (h : FW τ υ k) (ha : a = k + 5 ∨ a = k + 6 ∨ a = k + 19 ∨ a = k + 20) : FW τ (sg_up υ a i v) k := ⟨fun x x1 x2 x3 x4 x5 => by rw [up_a (by omega)]; exact h.1 x x1 x2 x3 x4 x5, fun b x => by rw [up_n2 (by omega)]; exact h.2 b x⟩
theorem FW.cnt {τ υ : Sg} {k i : Nat} {v : Int32} (h : FW τ υ k) (hi : 30 ≤ i ∧ i ≤ 32) : FW τ (sg_up υ k i v) k := ⟨fun x x1 x2 x3 x4 x5 => by rw [up_a (by omega)]; exact h.1 x x1 x2 x3 x4 x5, fun b x => by rw [up_n2 (by omega)]; exact h.2 b x⟩
theorem FW.sz {τ υ : Sg} {k r c : Nat} (h : FW τ υ k) (hz : Sz τ k r c) : Sz υ k r c := by
  unfold Sz
  rw [h.2 11 (by decide), h.2 12 (by decide)]
  exact hz
theorem FW.e2 {τ υ : Sg} {k : Nat} (h : FW τ υ k) : υ (k + 2) = τ (k + 2) ∧ υ (k + 3) = τ (k + 3) := ⟨h.1 _ (by omega) (by omega) (by omega) (by omega) (by omega), h.1 _ (by omega) (by omega) (by omega) (by omega) (by omega)⟩
theorem RM.bd {τ : Sg} {k r c q : Nat} {pc tn : Nat → Int32} (h : RM τ k pc tn) (hl : Lay pc tn (r * c) q) (hm : r * c ≤ 16) : Bd τ k r c := fun o ho => by
  obtain ⟨a, b⟩ := h o (by omega)
  rcases Nat.lt_or_ge o q with u | u
  · obtain ⟨p, t, hp, ht, e1, e2⟩ := hl.1 o u
    have n1 : ¬ pc o = -1 := by rw [e1]; exact nI_nm1 (by omega)
    exact .inr ⟨⟨p, hp, a.trans e1⟩, t, ht, (b.resolve_left n1).trans e2⟩
  · exact .inl (a.trans (hl.2 o u (by omega)))
section SM1
variable {k r c : Nat} {ri dn : Nat → Int32}
/-- a step back from cell q + 1 to cell q, where p lay in turn t -/
theorem z_pop {τ : Sg} {pc tn : Nat → Int32} {q p t : Nat} {x : Int32} {y : Int32} {R : Int32 → Int32 → Int32 → Sg → Rs} (hq : q < 16) (hp : p < 16) (ht : t < 4) (hM : RM τ k (ut pc q (nI p)) (ut tn q (nI t))) : f_X11_findWays_b156 k R (nI (q + 1)) y x τ = R (nI q) (nI (4 * p + t + 1)) (x &&& ((1 <<< (nI p &&& 31)) ^^^ (-1))) (sg_up τ (k + 5) q (-1)) := by
  obtain ⟨a, b⟩ := hM q hq
  rw [ut_s] at a b
  have b' : τ (k + 6) q = nI t := by
    have := b.resolve_left (nI_nm1 (by omega))
    rw [ut_s] at this
    exact this
  unfold f_X11_findWays_b156
  rw [pk_m1, if_pos (nI_pos' (by omega))]
  simp (disch := omega) only [rdN, wrN, rdZ, wrZ, p_put_eq, call_some, nzN, boN, nI_1, nI_add, pk_mul, lit_4, lit_16, le_T, le_F, lt_T, lt_F, eq_T, eq_F, le_T0, le_F0, lt_F0, lt_T0, eq_T0, eq_F0, eqm_F, up_s2, up_n2, Ev_some, nz_0, nz_1, if_true, if_false, reduceIte, and_true, true_and, and_false, false_and, b2_0, b2_1, Bool.true_eq_false, Bool.false_eq_true, not_true_eq_false, not_false_eq_true, a, b']
theorem RM.pop {τ : Sg} {pc tn : Nat → Int32} {q p t : Nat} (hq : q < 16) (hf : pc q = -1) (hM : RM τ k (ut pc q (nI p)) (ut tn q (nI t))) : RM (sg_up τ (k + 5) q (-1)) k pc tn := fun o ho => by
  obtain ⟨a, b⟩ := hM o ho
  by_cases e : o = q
  · subst e
    simp (disch := omega) only [rdN, wrN, rdZ, wrZ, p_put_eq, call_some, nzN, boN, nI_1, nI_add, pk_mul, lit_4, lit_16, le_T, le_F, lt_T, lt_F, eq_T, eq_F, le_T0, le_F0, lt_F0, lt_T0, eq_T0, eq_F0, eqm_F, up_s2, up_n2, Ev_some, nz_0, nz_1, if_true, if_false, reduceIte, and_true, true_and, and_false, false_and, b2_0, b2_1, Bool.true_eq_false, Bool.false_eq_true, not_true_eq_false, not_false_eq_true, hf, true_or]
  · rw [ut_n e] at a b
    rw [ut_n e] at b
    simp (disch := omega) only [rdN, wrN, rdZ, wrZ, p_put_eq, call_some, nzN, boN, nI_1, nI_add, pk_mul, lit_4, lit_16, le_T, le_F, lt_T, lt_F, eq_T, eq_F, le_T0, le_F0, lt_F0, lt_T0, eq_T0, eq_F0, eqm_F, up_s2, up_n2, Ev_some, nz_0, nz_1, if_true, if_false, reduceIte, and_true, true_and, and_false, false_and, b2_0, b2_1, Bool.true_eq_false, Bool.false_eq_true, not_true_eq_false, not_false_eq_true, a]
    exact b
theorem Us.pop {pc : Nat → Int32} {m q p : Nat} {x : Int32} (hq : q < m) (hm : m ≤ 16) (hp : p < 16) (hf : pc q = -1) (hfree : laidB pc m (nI p) = false) (h : Us x (ut pc q (nI p)) m) : Us (x &&& ((1 <<< (nI p &&& 31)) ^^^ (-1))) pc m := fun p' hp' => by
  rw [bit_and (by omega) (by omega), h p' hp', laid_put hq hm hp hp' hf]
  by_cases e : p' = p
  · subst e; rw [hfree]; simp
  · simp [e]
theorem Us.push {pc : Nat → Int32} {m q p : Nat} {x : Int32} (hq : q < m) (hm : m ≤ 16) (hp : p < 16) (hf : pc q = -1) (h : Us x pc m) : Us (x ||| (1 <<< (nI p &&& 31))) (ut pc q (nI p)) m := fun p' hp' => by
  rw [bit_or (by omega) (by omega), h p' hp', laid_put hq hm hp hp' hf, Bool.or_comm]
theorem RS.fr {τ υ : Sg} {m : Nat} {s : SS} (h : RS τ k m s) (h0 : υ k 31 = τ k 31) (h1 : υ k 30 = τ k 30) (h2 : υ k 32 = τ k 32) (h3 : υ (k + 19) = τ (k + 19)) (h4 : υ (k + 20) = τ (k + 20)) : RS υ k m s := by
  unfold RS
  rw [h0, h1, h2, h3, h4]
  exact h
/-- all cells are laid: counted, and the first of them kept -/
theorem z_leaf {τ : Sg} {pc tn : Nat → Int32} {x y : Int32} {s : SS} {R : Int32 → Int32 → Int32 → Sg → Rs} {Q : Int32 → Sg → Prop} (hz : Sz τ k r c) (hM : RM τ k pc tn) (hl : Lay pc tn (r * c) (r * c)) (hS : RS τ k (r * c) s) (hk : ∀ υ, FW τ υ k → RM υ k pc tn → RS υ k (r * c) (sr ri dn r c 0 pc tn s) → Ev (f_X11_findWays_b156 k R (nI (r * c)) y x υ) Q) : Ev (f_X11_findWays_b80 k R (nI (r * c)) y x τ) Q := by
  have hrc := hz.rc
  obtain ⟨s1, s2, s3, s4⟩ := hS
  unfold f_X11_findWays_b80
  simp (disch := omega) only [rdN, wrN, rdZ, wrZ, p_put_eq, call_some, nzN, boN, nI_1, nI_add, pk_mul, lit_4, lit_16, le_T, le_F, lt_T, lt_F, eq_T, eq_F, le_T0, le_F0, lt_F0, lt_T0, eq_T0, eq_F0, eqm_F, up_s2, up_n2, Ev_some, nz_0, nz_1, if_true, if_false, reduceIte, and_true, true_and, and_false, false_and, b2_0, b2_1, Bool.true_eq_false, Bool.false_eq_true, not_true_eq_false, not_false_eq_true, y_cells hz]
  rw [s2, nI_1]
  -- the copies
  have fin : ∀ υ, FW τ υ k → RM υ k pc tn → υ k 31 = nI s.1 → υ k 30 = nI (s.2.1 + 1) → (∀ q, q < r * c → υ (k + 19) q = (if s.2.1 = 0 then (pc, tn) else s.2.2).1 q ∧ υ (k + 20) q = (if s.2.1 = 0 then (pc, tn) else s.2.2).2 q) → Ev (f_X11_findWays_b151 k R (nI (r * c)) y x υ) Q := fun υ a b c1 c2 c3 => by
    unfold f_X11_findWays_b151
    rw [bo1, p_put_eq]
    refine hk _ (a.cnt (by decide)) ?_ ⟨by simp (disch := omega) only [rdN, wrN, rdZ, wrZ, p_put_eq, call_some, nzN, boN, nI_1, nI_add, pk_mul, lit_4, lit_16, le_T, le_F, lt_T, lt_F, eq_T, eq_F, le_T0, le_F0, lt_F0, lt_T0, eq_T0, eq_F0, eqm_F, up_s2, up_n2, Ev_some, nz_0, nz_1, if_true, if_false, reduceIte, and_true, true_and, and_false, false_and, b2_0, b2_1, Bool.true_eq_false, Bool.false_eq_true, not_true_eq_false, not_false_eq_true, c1]; rfl, by simp (disch := omega) only [rdN, wrN, rdZ, wrZ, p_put_eq, call_some, nzN, boN, nI_1, nI_add, pk_mul, lit_4, lit_16, le_T, le_F, lt_T, lt_F, eq_T, eq_F, le_T0, le_F0, lt_F0, lt_T0, eq_T0, eq_F0, eqm_F, up_s2, up_n2, Ev_some, nz_0, nz_1, if_true, if_false, reduceIte, and_true, true_and, and_false, false_and, b2_0, b2_1, Bool.true_eq_false, Bool.false_eq_true, not_true_eq_false, not_false_eq_true, c2]; rfl, ?_, fun _ q hq => ?_⟩
    · unfold RM
      rw [up_a (by omega), up_a (by omega)]
      exact b
    · simp (disch := omega) only [rdN, wrN, rdZ, wrZ, p_put_eq, call_some, nzN, boN, nI_1, nI_add, pk_mul, lit_4, lit_16, le_T, le_F, lt_T, lt_F, eq_T, eq_F, le_T0, le_F0, lt_F0, lt_T0, eq_T0, eq_F0, eqm_F, up_s2, up_n2, Ev_some, nz_0, nz_1, if_true, if_false, reduceIte, and_true, true_and, and_false, false_and, b2_0, b2_1, Bool.true_eq_false, Bool.false_eq_true, not_true_eq_false, not_false_eq_true]
      rw [sr]
      rfl
    · rw [up_a (by omega), up_a (by omega)]
      exact c3 q hq
  have M1 : RM (sg_up τ k 30 (nI (s.2.1 + 1))) k pc tn := by
    unfold RM
    rw [up_a (by omega), up_a (by omega)]
    exact hM
  have hz1 : Sz (sg_up τ k 30 (nI (s.2.1 + 1))) k r c := (FW.refl.cnt (by decide)).sz hz
  have F1 : FW τ (sg_up τ k 30 (nI (s.2.1 + 1))) k := FW.refl.cnt (by decide)
  have e31 : sg_up τ k 30 (nI (s.2.1 + 1)) k 31 = nI s.1 := by simp (disch := omega) only [rdN, wrN, rdZ, wrZ, p_put_eq, call_some, nzN, boN, nI_1, nI_add, pk_mul, lit_4, lit_16, le_T, le_F, lt_T, lt_F, eq_T, eq_F, le_T0, le_F0, lt_F0, lt_T0, eq_T0, eq_F0, eqm_F, up_s2, up_n2, Ev_some, nz_0, nz_1, if_true, if_false, reduceIte, and_true, true_and, and_false, false_and, b2_0, b2_1, Bool.true_eq_false, Bool.false_eq_true, not_true_eq_false, not_false_eq_true, s1]
  have e30 : sg_up τ k 30 (nI (s.2.1 + 1)) k 30 = nI (s.2.1 + 1) := by simp (disch := omega) only [rdN, wrN, rdZ, wrZ, p_put_eq, call_some, nzN, boN, nI_1, nI_add, pk_mul, lit_4, lit_16, le_T, le_F, lt_T, lt_F, eq_T, eq_F, le_T0, le_F0, lt_F0, lt_T0, eq_T0, eq_F0, eqm_F, up_s2, up_n2, Ev_some, nz_0, nz_1, if_true, if_false, reduceIte, and_true, true_and, and_false, false_and, b2_0, b2_1, Bool.true_eq_false, Bool.false_eq_true, not_true_eq_false, not_false_eq_true]
  have e32 : sg_up τ k 30 (nI (s.2.1 + 1)) k 32 = b2 (decide (0 < s.2.1)) := by simp (disch := omega) only [rdN, wrN, rdZ, wrZ, p_put_eq, call_some, nzN, boN, nI_1, nI_add, pk_mul, lit_4, lit_16, le_T, le_F, lt_T, lt_F, eq_T, eq_F, le_T0, le_F0, lt_F0, lt_T0, eq_T0, eq_F0, eqm_F, up_s2, up_n2, Ev_some, nz_0, nz_1, if_true, if_false, reduceIte, and_true, true_and, and_false, false_and, b2_0, b2_1, Bool.true_eq_false, Bool.false_eq_true, not_true_eq_false, not_false_eq_true, s3]
  have e19 : sg_up τ k 30 (nI (s.2.1 + 1)) (k + 19) = τ (k + 19) := up_a (by omega)
  have e20 : sg_up τ k 30 (nI (s.2.1 + 1)) (k + 20) = τ (k + 20) := up_a (by omega)
  generalize sg_up τ k 30 (nI (s.2.1 + 1)) = τ1 at M1 hz1 F1 e31 e30 e32 e19 e20
  by_cases h0 : s.2.1 = 0
  · refine lp_ev (L := fun n q υ => f_X11_findWays_b101 k R n (nI (r * c)) y x (nI q) υ) (m := r * c) (I := fun q υ => FW τ υ k ∧ RM υ k pc tn ∧ υ k 31 = nI s.1 ∧ υ k 30 = nI (s.2.1 + 1) ∧ υ k 32 = 0 ∧ ∀ o, o < q → υ (k + 19) o = pc o ∧ υ (k + 20) o = tn o) (fun n υ h => ?_) (fun n q υ hq h ih => ?_) fu 0 τ1 (Nat.zero_le _) (fu_lt (by omega)) ⟨F1, M1, e31, e30, by rw [e32, h0]; rfl, fun o ho => absurd ho (Nat.not_lt_zero _)⟩
    · show Ev (f_X11_findWays_b101 k R (n + 1) (nI (r * c)) y x (nI (r * c)) υ) _
      obtain ⟨a, b, c1, c2, c3, c4⟩ := h
      rw [f_X11_findWays_b101]
      simp (disch := omega) only [rdN, wrN, rdZ, wrZ, p_put_eq, call_some, nzN, boN, nI_1, nI_add, pk_mul, lit_4, lit_16, le_T, le_F, lt_T, lt_F, eq_T, eq_F, le_T0, le_F0, lt_F0, lt_T0, eq_T0, eq_F0, eqm_F, up_s2, up_n2, Ev_some, nz_0, nz_1, if_true, if_false, reduceIte, and_true, true_and, and_false, false_and, b2_0, b2_1, Bool.true_eq_false, Bool.false_eq_true, not_true_eq_false, not_false_eq_true, y_cells (a.sz hz)]
      refine fin υ a b c1 c2 (fun q hq => ?_)
      rw [if_pos h0]
      exact c4 q hq
    · show Ev (f_X11_findWays_b101 k R (n + 1) (nI (r * c)) y x (nI q) υ) _
      obtain ⟨a, b, c1, c2, c3, c4⟩ := h
      obtain ⟨m1, m2⟩ := b q (by omega)
      have n1 : ¬ pc q = -1 := by
        obtain ⟨p, t, hp, -, e, -⟩ := hl.1 q hq
        rw [e]; exact nI_nm1 (by omega)
      have m3 := m2.resolve_left n1
      rw [f_X11_findWays_b101]
      simp (disch := omega) only [rdN, wrN, rdZ, wrZ, p_put_eq, call_some, nzN, boN, nI_1, nI_add, pk_mul, lit_4, lit_16, le_T, le_F, lt_T, lt_F, eq_T, eq_F, le_T0, le_F0, lt_F0, lt_T0, eq_T0, eq_F0, eqm_F, up_s2, up_n2, Ev_some, nz_0, nz_1, if_true, if_false, reduceIte, and_true, true_and, and_false, false_and, b2_0, b2_1, Bool.true_eq_false, Bool.false_eq_true, not_true_eq_false, not_false_eq_true, y_cells (a.sz hz), c3, m1, m3]
      refine ih _ ⟨(a.up (by omega)).up (by omega), ?_, by simp (disch := omega) only [rdN, wrN, rdZ, wrZ, p_put_eq, call_some, nzN, boN, nI_1, nI_add, pk_mul, lit_4, lit_16, le_T, le_F, lt_T, lt_F, eq_T, eq_F, le_T0, le_F0, lt_F0, lt_T0, eq_T0, eq_F0, eqm_F, up_s2, up_n2, Ev_some, nz_0, nz_1, if_true, if_false, reduceIte, and_true, true_and, and_false, false_and, b2_0, b2_1, Bool.true_eq_false, Bool.false_eq_true, not_true_eq_false, not_false_eq_true, c1], by simp (disch := omega) only [rdN, wrN, rdZ, wrZ, p_put_eq, call_some, nzN, boN, nI_1, nI_add, pk_mul, lit_4, lit_16, le_T, le_F, lt_T, lt_F, eq_T, eq_F, le_T0, le_F0, lt_F0, lt_T0, eq_T0, eq_F0, eqm_F, up_s2, up_n2, Ev_some, nz_0, nz_1, if_true, if_false, reduceIte, and_true, true_and, and_false, false_and, b2_0, b2_1, Bool.true_eq_false, Bool.false_eq_true, not_true_eq_false, not_false_eq_true, c2], by simp (disch := omega) only [rdN, wrN, rdZ, wrZ, p_put_eq, call_some, nzN, boN, nI_1, nI_add, pk_mul, lit_4, lit_16, le_T, le_F, lt_T, lt_F, eq_T, eq_F, le_T0, le_F0, lt_F0, lt_T0, eq_T0, eq_F0, eqm_F, up_s2, up_n2, Ev_some, nz_0, nz_1, if_true, if_false, reduceIte, and_true, true_and, and_false, false_and, b2_0, b2_1, Bool.true_eq_false, Bool.false_eq_true, not_true_eq_false, not_false_eq_true, c3], fun o ho => ?_⟩
      · unfold RM
        rw [up_a (by omega), up_a (by omega), up_a (by omega), up_a (by omega)]
        exact b
      · by_cases e : o = q
        · subst e
          simp (disch := omega) only [rdN, wrN, rdZ, wrZ, p_put_eq, call_some, nzN, boN, nI_1, nI_add, pk_mul, lit_4, lit_16, le_T, le_F, lt_T, lt_F, eq_T, eq_F, le_T0, le_F0, lt_F0, lt_T0, eq_T0, eq_F0, eqm_F, up_s2, up_n2, Ev_some, nz_0, nz_1, if_true, if_false, reduceIte, and_true, true_and, and_false, false_and, b2_0, b2_1, Bool.true_eq_false, Bool.false_eq_true, not_true_eq_false, not_false_eq_true, m1, m3]
        · have := c4 o (by omega)
          simp (disch := omega) only [rdN, wrN, rdZ, wrZ, p_put_eq, call_some, nzN, boN, nI_1, nI_add, pk_mul, lit_4, lit_16, le_T, le_F, lt_T, lt_F, eq_T, eq_F, le_T0, le_F0, lt_F0, lt_T0, eq_T0, eq_F0, eqm_F, up_s2, up_n2, Ev_some, nz_0, nz_1, if_true, if_false, reduceIte, and_true, true_and, and_false, false_and, b2_0, b2_1, Bool.true_eq_false, Bool.false_eq_true, not_true_eq_false, not_false_eq_true, this.1, this.2]
  · have st : ∀ n, f_X11_findWays_b101 k R (n + 1) (nI (r * c)) y x 0 τ1 = f_X11_findWays_b151 k R (nI (r * c)) y x τ1 := fun n => by
      have hd : decide (0 < s.2.1) = true := decide_eq_true (by omega)
      have hpos : 4 ≤ r * c := Nat.mul_le_mul hz.2.2.1.1 hz.2.2.2.1
      rw [f_X11_findWays_b101]
      simp (disch := omega) only [rdN, wrN, rdZ, wrZ, p_put_eq, call_some, nzN, boN, nI_1, nI_add, pk_mul, lit_4, lit_16, le_T, le_F, lt_T, lt_F, eq_T, eq_F, le_T0, le_F0, lt_F0, lt_T0, eq_T0, eq_F0, eqm_F, up_s2, up_n2, Ev_some, nz_0, nz_1, if_true, if_false, reduceIte, and_true, true_and, and_false, false_and, b2_0, b2_1, Bool.true_eq_false, Bool.false_eq_true, not_true_eq_false, not_false_eq_true, y_cells hz1, e32, hd]
    rw [show f_X11_findWays_b101 k R fu (nI (r * c)) y x 0 τ1 = f_X11_findWays_b151 k R (nI (r * c)) y x τ1 from st 99999999]
    refine fin τ1 F1 M1 e31 e30 (fun q hq => ?_)
    rw [if_neg h0, e19, e20]
    exact s4 (by omega) q hq
end SM1
