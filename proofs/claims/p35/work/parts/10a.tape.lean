/-! the tape: what both sides read -/
def ixV (c b : Nat) : Int32 := match ff (fun j => decide ((strByt.getD c []).getD j 0 = (nI b).toInt8.toInt32)) 0 (strLen.getD c 0) with
  | none => -1
  | some j => nI j
/-- the byte b is one of the set c -/
def setB (c b : Nat) : Bool := match c with
  | 0 => decide (b = 122) || decide (b = 101) || decide (b = 99) || decide (b = 112)
  | 1 => decide (48 ≤ b) && decide (b ≤ 57)
  | 2 => decide (b = 114) || decide (b = 100)
  | 3 => decide (b = 43) || decide (b = 45)
  | 4 => decide (b = 44)
  | 5 => decide (b = 102) || decide (b = 99) || decide (b = 101) || decide (b = 108) || decide (b = 115)
  | _ => decide (b = 59)
theorem set_tab : ((List.range 7).all fun c => (List.range 256).all fun b => decide (ixV c b < 0) == !(setB c b)) = true := by decide +kernel
theorem set_ix {c b : Nat} (hc : c < 7) (hb : b < 256) : (ixV c b < 0) = (setB c b = false) := by
  have h := all_r (all_r set_tab hc) hb
  have h2 : decide (ixV c b < 0) = !(setB c b) := eq_of_beq h
  cases hs : setB c b with
  | false => rw [hs] at h2; exact propext ⟨fun _ => rfl, fun _ => of_decide_eq_true h2⟩
  | true => rw [hs] at h2; exact propext ⟨fun u => absurd u (of_decide_eq_false h2), fun u => by cases u⟩
theorem len_tab : ∀ c, c < 7 → 1 ≤ strLen.getD c 0 ∧ strLen.getD c 0 ≤ 10 := by decide +kernel
theorem sh0 : ∀ l, l < 11 → Int32.ofNat l >>> ((0 : Int32) &&& 31) = nI l := by decide +kernel
theorem jm_tab : ∀ l, l < 11 → 1 ≤ l → jmax 0 0 = 0 ∧ jmin (nI l) (nI l) = nI l ∧ ((0 : Int32) < nI l) := by decide +kernel
theorem x_indexOf {σ : Sg} {c b : Nat} (hc : c < 7) (hb : b < 256) : f_J0_indexOf_0f7a4 c (nI b) σ = some (ixV c b, σ) := by
  obtain ⟨l1, l2⟩ := len_tab c hc
  unfold f_J0_indexOf_0f7a4 f_J0_indexOf_7cf53 f_J0_isLatin1_aae02 f_J0_length_8abf5 f_J0_coder_7d493
  rw [if_neg (show ¬ (1 : Int32) = 0 by decide), if_pos rfl, call_some, if_neg (show ¬ (1 : Int32) = 0 by decide), if_neg (show ¬ (1 : Int32) = 0 by decide), call_some, call_some]
  unfold f_J1_indexOf_4cfef f_J1_canEncode_9a6ad
  generalize hl : strLen.getD c 0 = l at l1 l2
  obtain ⟨j1, j2, j3⟩ := jm_tab l (by omega) l1
  rw [sh0 l (by omega), show Int32.ofNat l = nI l from rfl, if_neg (nI_pos (by omega)), if_neg (show ¬ (255 : Int32) < nI b from nI_nlt (a := 255) (by omega) (by decide)), call_some, if_neg (show ¬ (1 : Int32) = 0 by decide), j1, j2, if_pos j3]
  have h := lp_ff (L := fun n j => f_J1_indexOfChar_4cfef_b7 c n (nI l) ((nI b).toInt8.toInt32) (nI j) σ) (m := l) (p := fun j => decide ((strByt.getD c []).getD j 0 = (nI b).toInt8.toInt32)) (E := some (-1, σ)) (F := fun j => some (nI j, σ)) (fun n => by
    show f_J1_indexOfChar_4cfef_b7 c (n + 1) (nI l) _ (nI l) σ = _
    rw [f_J1_indexOfChar_4cfef_b7, if_pos (nI_le (Nat.le_refl _) (by omega))]) (fun n j hj => by
    show f_J1_indexOfChar_4cfef_b7 c (n + 1) (nI l) _ (nI j) σ = if _ then _ else f_J1_indexOfChar_4cfef_b7 c n (nI l) _ (nI (j + 1)) σ
    rw [f_J1_indexOfChar_4cfef_b7, if_neg (nI_ge hj (by omega))]
    unfold p_srd
    rw [hl, if_pos (ix_nI hj (by omega)), nI_clamp (by omega), nI_1]
    rcases Classical.propComplete ((strByt.getD c []).getD j 0 = (nI b).toInt8.toInt32) with pc1 | pc1 <;> simp [pc1, b2]) fu 0 (Nat.zero_le _) (fu_lt (by omega))
  unfold f_J1_indexOfChar_4cfef ixV
  rw [show f_J1_indexOfChar_4cfef_b7 c fu (nI l) ((nI b).toInt8.toInt32) 0 σ = _ from h, hl, Nat.sub_zero]
  cases ff (fun j => decide ((strByt.getD c []).getD j 0 = (nI b).toInt8.toInt32)) 0 l <;> rfl
/-- a tape: n bytes -/
def TB (n : Nat) (B : Nat → Nat) : Prop := n ≤ 64 ∧ ∀ j, j < n → B j < 256
/-- the byte at a place, or 999 behind the end -/
def nb (n : Nat) (B : Nat → Nat) (a : Nat) : Nat := if a < n then B a else 999
theorem nb_in {n a : Nat} {B : Nat → Nat} (h : a < n) : nb n B a = B a := if_pos h
theorem nb_out {n a : Nat} {B : Nat → Nat} (h : n ≤ a) : nb n B a = 999 := if_neg (by omega)
theorem set_999 (c : Nat) : setB c 999 = false := by
  unfold setB
  split <;> decide
theorem set_lt {n c a : Nat} {B : Nat → Nat} (h : setB c (nb n B a) = true) : a < n := by
  rcases Nat.lt_or_ge a n with q | q
  · exact q
  · rw [nb_out q, set_999] at h; cases h
/-- the class's tape stands at place s.1, broken or not (s.2); all else is as in σ0 -/
def TP (σ0 σ : Sg) (n : Nat) (B : Nat → Nat) (s : Nat × Bool) : Prop := σ 55 2 = nI s.1 ∧ σ 55 3 = b2 s.2 ∧ σ 55 1 = nI n ∧ (∀ j, j < n → σ 56 j = nI (B j)) ∧ (∀ x, x ≠ 55 → σ x = σ0 x)
/-- one byte of a set is passed -/
def pz (n : Nat) (B : Nat → Nat) (c : Nat) (s : Nat × Bool) : Nat × Bool := if (!s.2 && setB c (nb n B s.1)) = true then (s.1 + 1, s.2) else (s.1, true)
theorem pz_t {n c a : Nat} {B : Nat → Nat} : pz n B c (a, true) = (a, true) := rfl
theorem pz_f {n c a : Nat} {B : Nat → Nat} : pz n B c (a, false) = if setB c (nb n B a) = true then (a + 1, false) else (a, true) := rfl
section TX
variable {n : Nat} {B : Nat → Nat} {σ0 σ : Sg} {s : Nat × Bool}
theorem pz_le (hs : s.1 ≤ n) (c : Nat) : (pz n B c s).1 ≤ n := by
  unfold pz
  by_cases h : (!s.2 && setB c (nb n B s.1)) = true
  · rw [if_pos h]
    rw [Bool.and_eq_true] at h
    have := set_lt h.2
    show s.1 + 1 ≤ n
    omega
  · rw [if_neg h]; exact hs
theorem x_isNext {c : Nat} (hB : TB n B) (hc : c < 7) (hs : s.1 ≤ n) (h : TP σ0 σ n B s) : f_X7_isNext 55 c σ = some (b2 (!s.2 && setB c (nb n B s.1)), σ) := by
  obtain ⟨h1, h2, h3, h4, h5⟩ := h
  have hn := hB.1
  unfold f_X7_isNext
  rw [h1, h2, h3]
  cases s.2 with
  | true => rw [if_neg (show ¬ b2 true = 0 by decide)]; rfl
  | false =>
    rw [if_pos (show b2 false = 0 from rfl)]
    rcases Nat.lt_or_ge s.1 n with q | q
    · rw [if_neg (nI_ge q (by omega)), rdN (by omega) (by decide), show σ (55 + 1) s.1 = nI (B s.1) from h4 s.1 q, x_indexOf hc (hB.2 _ q), call_some, nb_in q]
      have e := set_ix hc (hB.2 _ q)
      cases hz : setB c (B s.1) with
      | false => rw [if_pos (by rw [e]; exact hz)]; rfl
      | true => rw [if_neg (by rw [e, hz]; decide)]; rfl
    · rw [if_pos (nI_le q (by omega)), nb_out q, set_999]; rfl
theorem TP.mv {p : Nat} (h : TP σ0 σ n B s) : TP σ0 (sg_up σ 55 2 (nI p)) n B (p, s.2) := by
  obtain ⟨h1, h2, h3, h4, h5⟩ := h
  exact ⟨by simp (disch := omega) only [rdN, wrN, rdZ, wrZ, p_put_eq, call_some, nzN, boN, nI_1, nI_add, pk_mul, lit_4, lit_16, le_T, le_F, lt_T, lt_F, eq_T, eq_F, le_T0, le_F0, lt_F0, lt_T0, eq_T0, eq_F0, eqm_F, up_s2, up_n2, Ev_some, nz_0, nz_1, if_true, if_false, reduceIte, and_true, true_and, and_false, false_and, b2_0, b2_1, Bool.true_eq_false, Bool.false_eq_true, not_true_eq_false, not_false_eq_true], by simp (disch := omega) only [rdN, wrN, rdZ, wrZ, p_put_eq, call_some, nzN, boN, nI_1, nI_add, pk_mul, lit_4, lit_16, le_T, le_F, lt_T, lt_F, eq_T, eq_F, le_T0, le_F0, lt_F0, lt_T0, eq_T0, eq_F0, eqm_F, up_s2, up_n2, Ev_some, nz_0, nz_1, if_true, if_false, reduceIte, and_true, true_and, and_false, false_and, b2_0, b2_1, Bool.true_eq_false, Bool.false_eq_true, not_true_eq_false, not_false_eq_true, h2], by simp (disch := omega) only [rdN, wrN, rdZ, wrZ, p_put_eq, call_some, nzN, boN, nI_1, nI_add, pk_mul, lit_4, lit_16, le_T, le_F, lt_T, lt_F, eq_T, eq_F, le_T0, le_F0, lt_F0, lt_T0, eq_T0, eq_F0, eqm_F, up_s2, up_n2, Ev_some, nz_0, nz_1, if_true, if_false, reduceIte, and_true, true_and, and_false, false_and, b2_0, b2_1, Bool.true_eq_false, Bool.false_eq_true, not_true_eq_false, not_false_eq_true, h3], fun j hj => by simp (disch := omega) only [rdN, wrN, rdZ, wrZ, p_put_eq, call_some, nzN, boN, nI_1, nI_add, pk_mul, lit_4, lit_16, le_T, le_F, lt_T, lt_F, eq_T, eq_F, le_T0, le_F0, lt_F0, lt_T0, eq_T0, eq_F0, eqm_F, up_s2, up_n2, Ev_some, nz_0, nz_1, if_true, if_false, reduceIte, and_true, true_and, and_false, false_and, b2_0, b2_1, Bool.true_eq_false, Bool.false_eq_true, not_true_eq_false, not_false_eq_true, h4 j hj], fun x hx => by rw [up_a hx]; exact h5 x hx⟩
theorem x_passOneOf {c : Nat} (hB : TB n B) (hc : c < 7) (hs : s.1 ≤ n) (h : TP σ0 σ n B s) : Ev (f_X7_passOneOf 55 c σ) (fun _ υ => TP σ0 υ n B (pz n B c s)) := by
  have hn := hB.1
  unfold f_X7_passOneOf pz
  rw [x_isNext hB hc hs h, call_some]
  cases hb : (!s.2 && setB c (nb n B s.1)) with
  | false =>
    rw [if_pos (show b2 false = 0 from rfl), bo1, p_put_eq, Ev_some, if_neg (by decide)]
    obtain ⟨h1, h2, h3, h4, h5⟩ := h
    exact ⟨by simp (disch := omega) only [rdN, wrN, rdZ, wrZ, p_put_eq, call_some, nzN, boN, nI_1, nI_add, pk_mul, lit_4, lit_16, le_T, le_F, lt_T, lt_F, eq_T, eq_F, le_T0, le_F0, lt_F0, lt_T0, eq_T0, eq_F0, eqm_F, up_s2, up_n2, Ev_some, nz_0, nz_1, if_true, if_false, reduceIte, and_true, true_and, and_false, false_and, b2_0, b2_1, Bool.true_eq_false, Bool.false_eq_true, not_true_eq_false, not_false_eq_true, h1], by simp (disch := omega) only [rdN, wrN, rdZ, wrZ, p_put_eq, call_some, nzN, boN, nI_1, nI_add, pk_mul, lit_4, lit_16, le_T, le_F, lt_T, lt_F, eq_T, eq_F, le_T0, le_F0, lt_F0, lt_T0, eq_T0, eq_F0, eqm_F, up_s2, up_n2, Ev_some, nz_0, nz_1, if_true, if_false, reduceIte, and_true, true_and, and_false, false_and, b2_0, b2_1, Bool.true_eq_false, Bool.false_eq_true, not_true_eq_false, not_false_eq_true]; rfl, by simp (disch := omega) only [rdN, wrN, rdZ, wrZ, p_put_eq, call_some, nzN, boN, nI_1, nI_add, pk_mul, lit_4, lit_16, le_T, le_F, lt_T, lt_F, eq_T, eq_F, le_T0, le_F0, lt_F0, lt_T0, eq_T0, eq_F0, eqm_F, up_s2, up_n2, Ev_some, nz_0, nz_1, if_true, if_false, reduceIte, and_true, true_and, and_false, false_and, b2_0, b2_1, Bool.true_eq_false, Bool.false_eq_true, not_true_eq_false, not_false_eq_true, h3], fun j hj => by simp (disch := omega) only [rdN, wrN, rdZ, wrZ, p_put_eq, call_some, nzN, boN, nI_1, nI_add, pk_mul, lit_4, lit_16, le_T, le_F, lt_T, lt_F, eq_T, eq_F, le_T0, le_F0, lt_F0, lt_T0, eq_T0, eq_F0, eqm_F, up_s2, up_n2, Ev_some, nz_0, nz_1, if_true, if_false, reduceIte, and_true, true_and, and_false, false_and, b2_0, b2_1, Bool.true_eq_false, Bool.false_eq_true, not_true_eq_false, not_false_eq_true, h4 j hj], fun x hx => by rw [up_a hx]; exact h5 x hx⟩
  | true =>
    rw [if_neg (show ¬ b2 true = 0 by decide), p_put_eq, Ev_some, if_pos rfl, h.1, nI_1]
    exact h.mv
def cellP (n : Nat) (B : Nat → Nat) (s : Nat × Bool) : Nat × Bool := if (!(pz n B 1 s).2 && setB 1 (nb n B (pz n B 1 s).1)) = true then ((pz n B 1 s).1 + 1, (pz n B 1 s).2) else pz n B 1 s
theorem cellP_t {a : Nat} : cellP n B (a, true) = (a, true) := rfl
theorem x_passCell (hB : TB n B) (hs : s.1 ≤ n) (h : TP σ0 σ n B s) : Ev (f_X7_passCell 55 σ) (fun _ υ => TP σ0 υ n B (cellP n B s)) := by
  unfold f_X7_passCell cellP
  refine Ev.call (x_passOneOf hB (by decide) hs h) (fun _ υ hυ => ?_)
  rw [x_isNext hB (by decide) (pz_le hs 1) hυ, call_some]
  cases hb : (!(pz n B 1 s).2 && setB 1 (nb n B (pz n B 1 s).1)) with
  | false =>
    rw [if_pos (show b2 false = 0 from rfl), Ev_some, if_neg (by decide)]
    exact hυ
  | true =>
    rw [if_neg (show ¬ b2 true = 0 by decide), p_put_eq, Ev_some, if_pos rfl, hυ.1, nI_1]
    exact hυ.mv
theorem cellP_le (hs : s.1 ≤ n) : (cellP n B s).1 ≤ n := by
  unfold cellP
  by_cases h : (!(pz n B 1 s).2 && setB 1 (nb n B (pz n B 1 s).1)) = true
  · rw [if_pos h]
    rw [Bool.and_eq_true] at h
    have := set_lt h.2
    show (pz n B 1 s).1 + 1 ≤ n
    omega
  · rw [if_neg h]; exact pz_le hs 1
/-- a statement is passed; L is the byte at its place -/
def stM (n : Nat) (B : Nat → Nat) (L : Nat) (s : Nat × Bool) : Nat × Bool := if L = 99 then pz n B 1 (pz n B 4 (cellP n B s)) else if L = 101 then pz n B 1 (pz n B 3 (pz n B 2 (cellP n B s))) else if L = 122 then pz n B 1 (pz n B 1 s) else pz n B 1 (pz n B 5 s)
def stP (n : Nat) (B : Nat → Nat) (s : Nat × Bool) : Nat × Bool := pz n B 6 (stM n B (nb n B s.1) (pz n B 0 s))
theorem stP_le (hs : s.1 ≤ n) : (stP n B s).1 ≤ n := by
  unfold stP
  refine pz_le ?_ 6
  unfold stM
  have h0 := pz_le (B := B) hs 0
  by_cases a : nb n B s.1 = 99
  · rw [if_pos a]; exact pz_le (pz_le (cellP_le h0) 4) 1
  · rw [if_neg a]
    by_cases b : nb n B s.1 = 101
    · rw [if_pos b]; exact pz_le (pz_le (pz_le (cellP_le h0) 2) 3) 1
    · rw [if_neg b]
      by_cases d : nb n B s.1 = 122
      · rw [if_pos d]; exact pz_le (pz_le h0 1) 1
      · rw [if_neg d]; exact pz_le (pz_le h0 5) 1
theorem x_passSt_b24 {L : Nat} (hL : L < 256) (hB : TB n B) (hs : s.1 ≤ n) (h : TP σ0 σ n B s) : Ev (f_X7_passStatement_b24 55 (nI L) σ) (fun _ υ => TP σ0 υ n B (pz n B 6 (stM n B L (pz n B 0 s)))) := by
  have q : ∀ m : Nat, m < 256 → (nI L = nI m) = (L = m) := fun m hm => propext (nI_eq (by omega) (by omega))
  unfold f_X7_passStatement_b24 f_X7_passStatement_b139
  refine Ev.call (x_passOneOf hB (by decide) hs h) (fun _ υ hυ => ?_)
  have h0 := pz_le (B := B) hs 0
  unfold stM
  rw [show (99 : Int32) = nI 99 from rfl, show (101 : Int32) = nI 101 from rfl, show (122 : Int32) = nI 122 from rfl]
  by_cases a : L = 99
  · rw [if_pos (cast (q 99 (by decide)).symm a), if_pos a]
    refine Ev.call (x_passCell hB h0 hυ) (fun _ υ1 h1 => ?_)
    refine Ev.call (x_passOneOf hB (by decide) (cellP_le h0) h1) (fun _ υ2 h2 => ?_)
    refine Ev.call (x_passOneOf hB (by decide) (pz_le (cellP_le h0) 4) h2) (fun _ υ3 h3 => ?_)
    refine Ev.call (x_passOneOf hB (by decide) (pz_le (pz_le (cellP_le h0) 4) 1) h3) (fun _ υ4 h4 => ?_)
    rw [Ev_some]; exact h4
  rw [if_neg (fun e => a (cast (q 99 (by decide)) e)), if_neg a]
  by_cases b : L = 101
  · rw [if_pos (cast (q 101 (by decide)).symm b), if_pos b]
    refine Ev.call (x_passCell hB h0 hυ) (fun _ υ1 h1 => ?_)
    refine Ev.call (x_passOneOf hB (by decide) (cellP_le h0) h1) (fun _ υ2 h2 => ?_)
    refine Ev.call (x_passOneOf hB (by decide) (pz_le (cellP_le h0) 2) h2) (fun _ υ3 h3 => ?_)
    refine Ev.call (x_passOneOf hB (by decide) (pz_le (pz_le (cellP_le h0) 2) 3) h3) (fun _ υ4 h4 => ?_)
    refine Ev.call (x_passOneOf hB (by decide) (pz_le (pz_le (pz_le (cellP_le h0) 2) 3) 1) h4) (fun _ υ5 h5 => ?_)
    rw [Ev_some]; exact h5
  rw [if_neg (fun e => b (cast (q 101 (by decide)) e)), if_neg b]
  by_cases d : L = 122
  · rw [if_pos (cast (q 122 (by decide)).symm d), if_pos d]
    refine Ev.call (x_passOneOf hB (by decide) h0 hυ) (fun _ υ2 h2 => ?_)
    refine Ev.call (x_passOneOf hB (by decide) (pz_le h0 1) h2) (fun _ υ3 h3 => ?_)
    refine Ev.call (x_passOneOf hB (by decide) (pz_le (pz_le h0 1) 1) h3) (fun _ υ4 h4 => ?_)
    rw [Ev_some]; exact h4
  rw [if_neg (fun e => d (cast (q 122 (by decide)) e)), if_neg d]
  refine Ev.call (x_passOneOf hB (by decide) h0 hυ) (fun _ υ2 h2 => ?_)
  refine Ev.call (x_passOneOf hB (by decide) (pz_le h0 5) h2) (fun _ υ3 h3 => ?_)
  refine Ev.call (x_passOneOf hB (by decide) (pz_le (pz_le h0 5) 1) h3) (fun _ υ4 h4 => ?_)
  rw [Ev_some]; exact h4
theorem x_passStatement (hB : TB n B) (hs : s.1 ≤ n) (h : TP σ0 σ n B s) : Ev (f_X7_passStatement 55 σ) (fun _ υ => TP σ0 υ n B (stP n B s)) := by
  have hn := hB.1
  unfold f_X7_passStatement stP
  rw [h.1, h.2.2.1]
  rcases Nat.lt_or_ge s.1 n with q | q
  · rw [if_neg (nI_ge q (by omega)), rdN (by omega) (by decide), show σ (55 + 1) s.1 = nI (B s.1) from h.2.2.2.1 s.1 q, nb_in q]
    exact x_passSt_b24 (hB.2 _ q) hB hs h
  · rw [if_pos (nI_le q (by omega)), nb_out q]
    have := x_passSt_b24 (L := 0) (by decide) hB hs h
    have e : stM n B 999 (pz n B 0 s) = stM n B 0 (pz n B 0 s) := rfl
    rw [e]
    exact this
end TX
