/-! the tape: the reference's statement -/
def nbI (b : Nat) : Int32 := if b = 999 then -1 else nI b
/-- the reference stands at place a -/
def mvA (τ : Sg) (a : Nat) : Sg := sg_up τ 103 22 (nI a)
theorem mv_mv {τ : Sg} {a b : Nat} : sg_up (mvA τ a) 103 22 (nI b) = mvA τ b := by
  funext x y
  unfold mvA sg_up
  by_cases h : x = 103 ∧ y = 22
  · rw [if_pos h, if_pos h]
  · rw [if_neg h, if_neg h, if_neg h]
theorem mv_up {τ : Sg} {a k i : Nat} {v : Int32} (h : k ≠ 103) : sg_up (mvA τ a) k i v = mvA (sg_up τ k i v) a := by
  funext x y
  unfold mvA sg_up
  by_cases h1 : x = k ∧ y = i
  · rw [if_pos h1, if_neg (by omega), if_pos h1]
  · rw [if_neg h1]
    by_cases h2 : x = 103 ∧ y = 22
    · rw [if_pos h2, if_pos h2]
    · rw [if_neg h2, if_neg h2, if_neg h1]
theorem mv_at {τ : Sg} {a : Nat} : mvA τ a 103 22 = nI a := up_s2 ⟨rfl, rfl⟩
theorem mv_o {τ : Sg} {a x : Nat} (h : x ≠ 103) : mvA τ a x = τ x := up_a h
theorem mv_s {τ : Sg} {a b : Nat} (h : b ≠ 22) : mvA τ a 103 b = τ 103 b := up_n2 (by omega)
def TR (τ : Sg) (n : Nat) (B : Nat → Nat) : Prop := τ 103 21 = nI n ∧ ∀ j, j < n → τ 115 j = nI (B j)
theorem TR.up {τ : Sg} {n k i : Nat} {B : Nat → Nat} {v : Int32} (h : TR τ n B) (hk : 116 ≤ k) : TR (sg_up τ k i v) n B := ⟨by rw [up_n2 (by omega)]; exact h.1, fun j hj => by rw [up_n2 (by omega)]; exact h.2 j hj⟩
def qN (n : Nat) (B : Nat → Nat) (a : Nat) : Nat := if setB 1 (nb n B (a + 2)) = true then a + 3 else a + 2
def nuV (n : Nat) (B : Nat → Nat) (a : Nat) : Nat := if setB 1 (nb n B (a + 2)) = true then 10 * (nb n B (a + 1) - 48) + (nb n B (a + 2) - 48) else nb n B (a + 1) - 48
def kdN (b : Nat) : Nat := if b = 99 then 1 else if b = 101 then 2 else if b = 102 then 0 else if b = 108 then 3 else 4
def fF (n : Nat) (B : Nat → Nat) (a : Nat) : Nat := if nb n B a = 122 then nb n B (a + 1) - 48 else if nb n B a = 112 then kdN (nb n B (a + 1)) else nuV n B a
def fS (n : Nat) (B : Nat → Nat) (a : Nat) : Nat := if nb n B a = 122 ∨ nb n B a = 112 then nb n B (a + 2) - 48 else if nb n B a = 99 then nb n B (qN n B a + 1) - 48 else if nb n B (qN n B a) = 114 then 0 else 1
def fT (n : Nat) (B : Nat → Nat) (a : Nat) : Int32 := if nb n B (qN n B a + 1) = 43 then nI (nb n B (qN n B a + 2) - 48) else -(nI (nb n B (qN n B a + 2) - 48))
section TM
variable {n : Nat} {B : Nat → Nat} {τ : Sg} {a : Nat}
theorem nb_r (hB : TB n B) : nb n B a < 256 ∨ nb n B a = 999 := by
  rcases Nat.lt_or_ge a n with q | q
  · rw [nb_in q]; exact .inl (hB.2 a q)
  · exact .inr (nb_out q)
theorem nbI_eq (hB : TB n B) {b : Nat} (hb : b < 256) : (nbI (nb n B a) = nI b) = (nb n B a = b) := by
  unfold nbI
  rcases nb_r (a := a) hB with h | h
  · rw [if_neg (by omega)]
    exact propext (nI_eq (by omega) (by omega))
  · rw [if_pos h, h]
    exact propext ⟨fun e => absurd e.symm (nI_nm1 (by omega)), fun e => by omega⟩
theorem dg_r {b : Nat} (h : setB 1 b = true) : 48 ≤ b ∧ b ≤ 57 := by
  unfold setB at h
  simp only [Bool.and_eq_true, decide_eq_true_eq] at h
  exact h
theorem y_nextByte (hB : TB n B) (h : TR τ n B) (ha : a < 1000) : f_X11_nextByte 103 (mvA τ a) = some (nbI (nb n B a), mvA τ a) := by
  have hn := hB.1
  unfold f_X11_nextByte
  rw [mv_at, mv_s (by decide), h.1]
  rcases Nat.lt_or_ge a n with q | q
  · rw [if_neg (nI_ge q (by omega)), rdN (by omega) (by decide), mv_o (by decide), show τ (103 + 12) a = nI (B a) from h.2 a q, nb_in q]
    unfold nbI
    rw [if_neg (by have := hB.2 a q; omega)]
  · rw [if_pos (nI_le q (by omega)), nb_out q]
    rfl
theorem y_isDig (hB : TB n B) : f_X11_isIn (nbI (nb n B a)) 48 57 (mvA τ a) = some (b2 (setB 1 (nb n B a)), mvA τ a) := by
  rw [y_isIn]
  congr 3
  unfold nbI setB
  rcases nb_r (a := a) hB with h | h
  · rw [if_neg (by omega), show decide ((48 : Int32) ≤ nI (nb n B a)) = decide (48 ≤ nb n B a) from decide_eq_decide.mpr (nI_leI (a := 48) (by decide) (by omega)), show decide (nI (nb n B a) ≤ (57 : Int32)) = decide (nb n B a ≤ 57) from decide_eq_decide.mpr (nI_leI (b := 57) (by omega) (by decide))]
    rfl
  · rw [if_pos h, h]; decide
theorem y_isNextB (hB : TB n B) (h : TR τ n B) (ha : a < 900) {b : Nat} (hb : b < 256) : f_X11_isNext 103 (nI b) (mvA τ a) = some (b2 (decide (nb n B a = b)), mvA τ (if nb n B a = b then a + 1 else a)) := by
  unfold f_X11_isNext
  rw [y_nextByte hB h (by omega), call_some]
  by_cases e : nb n B a = b
  · rw [if_pos (cast (nbI_eq hB hb).symm e), p_put_eq, mv_at, nI_1, mv_mv, if_pos e, decide_eq_true e]; rfl
  · rw [if_neg (fun u => e (cast (nbI_eq hB hb) u)), if_neg e, decide_eq_false e]; rfl
theorem dig_v (hB : TB n B) (hd : setB 1 (nb n B a) = true) {v : Nat} : 10 * nI v + nbI (nb n B a) - 48 = nI (10 * v + (nb n B a - 48)) := by
  obtain ⟨d1, d2⟩ := dg_r hd
  unfold nbI
  rw [if_neg (by omega), L10, pk_mul, nI_add, show (48 : Int32) = nI 48 from rfl, pk_sub (by omega)]
  congr 1
  omega
theorem y_num1 (hB : TB n B) (h : TR τ n B) (ha : a < 900) : f_X11_number 103 1 (mvA τ a) = some (if setB 1 (nb n B a) = true then nI (nb n B a - 48) else -1, mvA τ (if setB 1 (nb n B a) = true then a + 1 else a)) := by
  unfold f_X11_number
  rw [y_nextByte hB h (by omega), call_some, y_isDig hB, call_some]
  cases hd : setB 1 (nb n B a) with
  | false => rw [if_pos (show b2 false = 0 from rfl)]; rfl
  | true =>
    rw [if_neg (show ¬ b2 true = 0 by decide)]
    have st : ∀ f, f_X11_number_b20 103 (f + 1 + 1) 1 0 0 (mvA τ a) = some (nI (nb n B a - 48), mvA τ (a + 1)) := fun f => by
      rw [f_X11_number_b20, if_neg (by decide), y_nextByte hB h (by omega), call_some, y_isDig hB, call_some, hd, if_neg (show ¬ b2 true = 0 by decide), y_nextByte hB h (by omega), call_some, p_put_eq, mv_at, nI_1, mv_mv, f_X11_number_b20, if_pos (by decide), L0, dig_v hB hd]
      rw [show 10 * 0 + (nb n B a - 48) = nb n B a - 48 by omega]
    exact st 99999998
theorem y_num2 (hB : TB n B) (h : TR τ n B) (ha : a < 900) : f_X11_number 103 2 (mvA τ a) = some (if setB 1 (nb n B a) = true then nI (if setB 1 (nb n B (a + 1)) = true then 10 * (nb n B a - 48) + (nb n B (a + 1) - 48) else nb n B a - 48) else -1, mvA τ (if setB 1 (nb n B a) = true then (if setB 1 (nb n B (a + 1)) = true then a + 2 else a + 1) else a)) := by
  unfold f_X11_number
  rw [y_nextByte hB h (by omega), call_some, y_isDig hB, call_some]
  cases hd : setB 1 (nb n B a) with
  | false => rw [if_pos (show b2 false = 0 from rfl)]; rfl
  | true =>
    rw [if_neg (show ¬ b2 true = 0 by decide), if_pos rfl, if_pos rfl]
    have st : ∀ f, f_X11_number_b20 103 (f + 1 + 1 + 1) 2 0 0 (mvA τ a) = some (nI (if setB 1 (nb n B (a + 1)) = true then 10 * (nb n B a - 48) + (nb n B (a + 1) - 48) else nb n B a - 48), mvA τ (if setB 1 (nb n B (a + 1)) = true then a + 2 else a + 1)) := fun f => by
      rw [f_X11_number_b20, if_neg (by decide), y_nextByte hB h (by omega), call_some, y_isDig hB, call_some, hd, if_neg (show ¬ b2 true = 0 by decide), y_nextByte hB h (by omega), call_some, p_put_eq, mv_at, nI_1, mv_mv, show 10 * (0 : Int32) + nbI (nb n B a) - 48 = nI (nb n B a - 48) from by
        have := dig_v (v := 0) hB hd
        rw [show 10 * 0 + (nb n B a - 48) = nb n B a - 48 by omega] at this
        exact this]
      rw [f_X11_number_b20, if_neg (by decide), y_nextByte hB h (by omega), call_some, y_isDig hB, call_some]
      cases hd2 : setB 1 (nb n B (a + 1)) with
      | false => rw [if_pos (show b2 false = 0 from rfl)]; rfl
      | true =>
        rw [if_neg (show ¬ b2 true = 0 by decide), y_nextByte hB h (by omega), call_some, p_put_eq, mv_at, nI_1, mv_mv, f_X11_number_b20, if_pos (by decide), dig_v hB hd2]
        rfl
    exact st 99999997
/-- arrays changed at k alone -/
def AR (τ τ' : Sg) (k : Nat) : Prop := (∀ x, x < 116 ∨ 120 < x → τ' x = τ x) ∧ ∀ x, ∀ j, j ≠ k → τ' x j = τ x j
theorem AR.up {τ τ' : Sg} {k x : Nat} {v : Int32} (h : AR τ τ' k) (hx : 116 ≤ x ∧ x ≤ 120) : AR τ (sg_up τ' x k v) k := ⟨fun y hy => by rw [up_a (by omega)]; exact h.1 y hy, fun y j hj => by rw [up_n2 (by omega)]; exact h.2 y j hj⟩
theorem AR.refl {τ : Sg} {k : Nat} : AR τ τ k := ⟨fun _ _ => rfl, fun _ _ _ => rfl⟩
/-- what the reference has noted of its statement k, which begins at a -/
def DA (τ : Sg) (n : Nat) (B : Nat → Nat) (k a : Nat) : Prop := τ 116 k = nI (nb n B a) ∧ τ 117 k = nI a ∧ τ 118 k = nI (fF n B a) ∧ τ 119 k = nI (fS n B a) ∧ (nb n B a = 101 → τ 120 k = fT n B a)
theorem st_t {L : Nat} : pz n B 6 (stM n B L (a, true)) = (a, true) := by
  unfold stM
  by_cases h1 : L = 99
  · rw [if_pos h1]; rfl
  · rw [if_neg h1]
    by_cases h2 : L = 101
    · rw [if_pos h2]; rfl
    · rw [if_neg h2]
      by_cases h3 : L = 122
      · rw [if_pos h3]; rfl
      · rw [if_neg h3]; rfl
theorem cellP_f : cellP n B (a, false) = if setB 1 (nb n B a) = true then (if setB 1 (nb n B (a + 1)) = true then (a + 2, false) else (a + 1, false)) else (a, true) := by
  unfold cellP
  rw [pz_f]
  cases setB 1 (nb n B a)
  · rfl
  · cases hd : setB 1 (nb n B (a + 1))
    · simp [hd]
    · simp [hd]
/-- the end of z, c, p: a digit and the end -/
theorem y_tail {k : Nat} (hB : TB n B) (h : TR τ n B) (ha : a < 800) (hk : k < 32) : Ev (f_X11_statement_b165 103 (nI k) (mvA τ a)) (fun v υ => v = b2 (!(pz n B 6 (pz n B 1 (a, false))).2) ∧ ∃ τ', υ = mvA τ' (pz n B 6 (pz n B 1 (a, false))).1 ∧ AR τ τ' k ∧ (∀ x, x ≠ 119 → τ' x = τ x) ∧ ((pz n B 6 (pz n B 1 (a, false))).2 = false → τ' 119 k = nI (nb n B (a + 1 - 1) - 48))) := by
  unfold f_X11_statement_b165
  rw [y_num1 hB h (by omega), call_some, wrN (by omega) (by decide), rdN (by omega) (by decide), up_s2 ⟨rfl, rfl⟩, mv_up (by decide), pz_f]
  cases hd : setB 1 (nb n B a) with
  | false =>
    simp only [Bool.false_eq_true, if_false]
    rw [if_pos (show (-1 : Int32) < 0 by decide), Ev_some]
    exact ⟨rfl, _, rfl, AR.refl.up (by decide), fun x hx => up_a hx, fun u => by cases u⟩
  | true =>
    obtain ⟨d1, d2⟩ := dg_r hd
    rw [if_pos rfl, if_neg (nI_pos (by omega)), if_pos rfl, show (59 : Int32) = nI 59 from rfl, y_isNextB hB (h.up (by decide)) (by omega) (by decide), call_some, if_pos rfl, pz_f]
    have e6 : setB 6 (nb n B (a + 1)) = decide (nb n B (a + 1) = 59) := rfl
    rw [e6]
    by_cases hs : nb n B (a + 1) = 59
    · rw [decide_eq_true hs, if_pos hs, if_neg (show ¬ b2 true = 0 by decide), Ev_some, if_pos rfl]
      exact ⟨rfl, _, rfl, AR.refl.up (by decide), fun x hx => up_a hx, fun _ => by simp (disch := omega) only [rdN, wrN, rdZ, wrZ, p_put_eq, call_some, nzN, boN, nI_1, nI_add, pk_mul, lit_4, lit_16, le_T, le_F, lt_T, lt_F, eq_T, eq_F, le_T0, le_F0, lt_F0, lt_T0, eq_T0, eq_F0, eqm_F, up_s2, up_n2, Ev_some, nz_0, nz_1, if_true, if_false, reduceIte, and_true, true_and, and_false, false_and, b2_0, b2_1, Bool.true_eq_false, Bool.false_eq_true, not_true_eq_false, not_false_eq_true]; rfl⟩
    · rw [decide_eq_false hs, if_neg hs, if_pos (show b2 false = 0 from rfl), Ev_some, if_neg (by decide)]
      exact ⟨rfl, _, rfl, AR.refl.up (by decide), fun x hx => up_a hx, fun u => by cases u⟩
theorem y_kind (hB : TB n B) : f_X11_kindOf (nbI (nb n B a)) (mvA τ a) = some (if setB 5 (nb n B a) = true then nI (kdN (nb n B a)) else -1, mvA τ a) := by
  unfold f_X11_kindOf
  rw [show (99 : Int32) = nI 99 from rfl, show (101 : Int32) = nI 101 from rfl, show (102 : Int32) = nI 102 from rfl, show (108 : Int32) = nI 108 from rfl, show (115 : Int32) = nI 115 from rfl]
  simp only [nbI_eq hB (show 99 < 256 by decide), nbI_eq hB (show 101 < 256 by decide), nbI_eq hB (show 102 < 256 by decide), nbI_eq hB (show 108 < 256 by decide), nbI_eq hB (show 115 < 256 by decide)]
  unfold kdN
  have e5 : setB 5 (nb n B a) = (decide (nb n B a = 102) || decide (nb n B a = 99) || decide (nb n B a = 101) || decide (nb n B a = 108) || decide (nb n B a = 115)) := rfl
  rw [e5]
  generalize nb n B a = b
  by_cases h1 : b = 99
  · subst h1; rfl
  by_cases h2 : b = 101
  · subst h2; rfl
  by_cases h3 : b = 102
  · subst h3; rfl
  by_cases h4 : b = 108
  · subst h4; rfl
  by_cases h5 : b = 115
  · subst h5; rfl
  simp [h1, h2, h3, h4, h5]
theorem kdN_lt {b : Nat} : kdN b < 5 := by
  unfold kdN
  repeat' split
  all_goals decide
/-- the edge behind its number: where to, a sign, a class, the end -/
theorem y_edge {k : Nat} (hB : TB n B) (h : TR τ n B) (ha : a < 700) (hk : k < 32) : Ev (f_X11_readsEdge 103 (nI k) (mvA τ (a + 1))) (fun v υ => v = b2 (!(pz n B 6 (pz n B 1 (pz n B 3 (pz n B 2 (cellP n B (a + 1, false)))))).2) ∧ ∃ τ', υ = mvA τ' (pz n B 6 (pz n B 1 (pz n B 3 (pz n B 2 (cellP n B (a + 1, false)))))).1 ∧ AR τ τ' k ∧ (∀ x, x < 118 → τ' x = τ x) ∧ ((pz n B 6 (pz n B 1 (pz n B 3 (pz n B 2 (cellP n B (a + 1, false)))))).2 = false → τ' 118 k = nI (nuV n B a) ∧ τ' 119 k = nI (if nb n B (qN n B a) = 114 then 0 else 1) ∧ τ' 120 k = fT n B a)) := by
  have fail : ∀ (τ' : Sg) (e : Nat), AR τ τ' k → (∀ x, x < 118 → τ' x = τ x) → (fun (v : Int32) (υ : Sg) => v = b2 (!((e, true) : Nat × Bool).2) ∧ ∃ τ', υ = mvA τ' ((e, true) : Nat × Bool).1 ∧ AR τ τ' k ∧ (∀ x, x < 118 → τ' x = τ x) ∧ (((e, true) : Nat × Bool).2 = false → τ' 118 k = nI (nuV n B a) ∧ τ' 119 k = nI (if nb n B (qN n B a) = 114 then 0 else 1) ∧ τ' 120 k = fT n B a)) 0 (mvA τ' e) := fun τ' e h1 h2 => ⟨rfl, τ', rfl, h1, h2, fun u => by cases u⟩
  unfold f_X11_readsEdge
  rw [y_num2 hB h (by omega), call_some, wrN (by omega) (by decide), rdN (by omega) (by decide), up_s2 ⟨rfl, rfl⟩, mv_up (by decide), cellP_f]
  cases hd : setB 1 (nb n B (a + 1)) with
  | false =>
    simp only [Bool.false_eq_true, if_false]
    rw [if_neg (show ¬ (0 : Int32) ≤ -1 by decide), Ev_some]
    exact fail _ _ (AR.refl.up (by decide)) (fun x hx => up_a (by omega))
  | true =>
    obtain ⟨d1, d2⟩ := dg_r hd
    rw [if_pos rfl, if_pos rfl, if_pos rfl]
    have enu : (if setB 1 (nb n B (a + 1 + 1)) = true then 10 * (nb n B (a + 1) - 48) + (nb n B (a + 1 + 1) - 48) else nb n B (a + 1) - 48) = nuV n B a := rfl
    have eq1 : (if setB 1 (nb n B (a + 1 + 1)) = true then a + 1 + 2 else a + 1 + 1) = qN n B a := rfl
    have eq2 : (if setB 1 (nb n B (a + 1 + 1)) = true then (a + 1 + 2, false) else (a + 1 + 1, false)) = (qN n B a, false) := by
      unfold qN
      cases setB 1 (nb n B (a + 2)) <;> rfl
    have hnu : nuV n B a < 1000 := by
      unfold nuV
      by_cases z : setB 1 (nb n B (a + 2)) = true
      · rw [if_pos z]
        have := dg_r z
        omega
      · rw [if_neg z]; omega
    have hq : qN n B a ≤ a + 3 := by
      unfold qN
      by_cases z : setB 1 (nb n B (a + 2)) = true
      · rw [if_pos z]; omega
      · rw [if_neg z]; omega
    rw [enu, eq1, eq2, if_pos (nI_pos' (by omega))]
    generalize hQ : qN n B a = q at hq
    have T1 : TR (sg_up τ 118 k (nI (nuV n B a))) n B := h.up (by decide)
    have A1 : AR τ (sg_up τ 118 k (nI (nuV n B a))) k := AR.refl.up (by decide)
    have F1 : ∀ x, x < 118 → sg_up τ 118 k (nI (nuV n B a)) x = τ x := fun x hx => up_a (by omega)
    have V1 : sg_up τ 118 k (nI (nuV n B a)) 118 k = nI (nuV n B a) := up_s2 ⟨rfl, rfl⟩
    rw [show sg_up τ (103 + 15) k (nI (nuV n B a)) = sg_up τ 118 k (nI (nuV n B a)) from rfl]
    generalize sg_up τ 118 k (nI (nuV n B a)) = τ1 at T1 A1 F1 V1
    rw [y_nextByte hB T1 (by omega), call_some, y_nextByte hB T1 (by omega), call_some, show (114 : Int32) = nI 114 from rfl, show (100 : Int32) = nI 100 from rfl, pz_f]
    -- behind the letter
    have rest : ∀ s2 : Nat, s2 < 2 → Ev (f_X11_readsEdge_b54 103 (nI k) (nI k) (nI s2) (mvA τ1 q)) (fun v υ => v = b2 (!(pz n B 6 (pz n B 1 (pz n B 3 (q + 1, false)))).2) ∧ ∃ τ', υ = mvA τ' (pz n B 6 (pz n B 1 (pz n B 3 (q + 1, false)))).1 ∧ AR τ τ' k ∧ (∀ x, x < 118 → τ' x = τ x) ∧ ((pz n B 6 (pz n B 1 (pz n B 3 (q + 1, false)))).2 = false → τ' 118 k = nI (nuV n B a) ∧ τ' 119 k = nI s2 ∧ τ' 120 k = fT n B a)) := by
      intro s2 hs2
      unfold f_X11_readsEdge_b54
      rw [wrN (by omega) (by decide), rdN (by omega) (by decide), up_s2 ⟨rfl, rfl⟩, if_pos (nI_pos' (by omega)), p_put_eq, mv_up (by decide), mv_at, nI_1, mv_mv]
      have T2 : TR (sg_up τ1 119 k (nI s2)) n B := T1.up (by decide)
      have A2 : AR τ (sg_up τ1 119 k (nI s2)) k := A1.up (by decide)
      have F2 : ∀ x, x < 118 → sg_up τ1 119 k (nI s2) x = τ x := fun x hx => by rw [up_a (by omega)]; exact F1 x hx
      have V2 : sg_up τ1 119 k (nI s2) 118 k = nI (nuV n B a) ∧ sg_up τ1 119 k (nI s2) 119 k = nI s2 := ⟨by rw [up_a (by decide)]; exact V1, up_s2 ⟨rfl, rfl⟩⟩
      rw [show sg_up τ1 (103 + 16) k (nI s2) = sg_up τ1 119 k (nI s2) from rfl]
      generalize sg_up τ1 119 k (nI s2) = τ2 at T2 A2 F2 V2
      rw [y_nextByte hB T2 (by omega), call_some, y_nextByte hB T2 (by omega), call_some, show (43 : Int32) = nI 43 from rfl, show (45 : Int32) = nI 45 from rfl, pz_f]
      have e3 : setB 3 (nb n B (q + 1)) = (decide (nb n B (q + 1) = 43) || decide (nb n B (q + 1) = 45)) := rfl
      -- behind the sign
      have sg : ∀ sn : Int32, ¬ sn = 0 → (setB 1 (nb n B (q + 1 + 1)) = true → sn * nI (nb n B (q + 1 + 1) - 48) = fT n B a) → Ev (f_X11_readsEdge_b103 103 (nI k) sn (mvA τ2 (q + 1))) (fun v υ => v = b2 (!(pz n B 6 (pz n B 1 (q + 1 + 1, false))).2) ∧ ∃ τ', υ = mvA τ' (pz n B 6 (pz n B 1 (q + 1 + 1, false))).1 ∧ AR τ τ' k ∧ (∀ x, x < 118 → τ' x = τ x) ∧ ((pz n B 6 (pz n B 1 (q + 1 + 1, false))).2 = false → τ' 118 k = nI (nuV n B a) ∧ τ' 119 k = nI s2 ∧ τ' 120 k = fT n B a)) := by
        intro sn hsn hval
        unfold f_X11_readsEdge_b103
        rw [if_neg hsn, p_put_eq, mv_at, nI_1, mv_mv, y_num1 hB T2 (by omega), call_some, pz_f]
        cases hd2 : setB 1 (nb n B (q + 1 + 1)) with
        | false =>
          simp only [Bool.false_eq_true, if_false]
          rw [if_neg (show ¬ (0 : Int32) ≤ -1 by decide), Ev_some]
          exact ⟨rfl, τ2, rfl, A2, F2, fun u => by cases u⟩
        | true =>
          obtain ⟨x1, x2⟩ := dg_r hd2
          rw [if_pos rfl, if_pos (nI_pos' (by omega)), if_pos rfl, wrN (by omega) (by decide), mv_up (by decide), hval hd2, show (59 : Int32) = nI 59 from rfl, y_isNextB hB (T2.up (by decide)) (by omega) (by decide), call_some, boN, Ev_some, if_pos rfl, pz_f]
          have e6 : setB 6 (nb n B (q + 1 + 1 + 1)) = decide (nb n B (q + 1 + 1 + 1) = 59) := rfl
          rw [e6]
          by_cases hs : nb n B (q + 1 + 1 + 1) = 59
          · rw [decide_eq_true hs, if_pos hs, if_pos rfl]
            exact ⟨rfl, _, rfl, A2.up (by decide), fun x hx => by rw [up_a (by omega)]; exact F2 x hx, fun _ => ⟨by rw [up_a (by decide)]; exact V2.1, by rw [up_a (by decide)]; exact V2.2, up_s2 ⟨rfl, rfl⟩⟩⟩
          · rw [decide_eq_false hs, if_neg hs, if_neg (by decide)]
            exact ⟨rfl, _, rfl, A2.up (by decide), fun x hx => by rw [up_a (by omega)]; exact F2 x hx, fun u => by cases u⟩
      have efT : fT n B a = if nb n B (q + 1) = 43 then nI (nb n B (q + 2) - 48) else -(nI (nb n B (q + 2) - 48)) := by unfold fT; rw [hQ]
      rw [e3]
      by_cases h43 : nb n B (q + 1) = 43
      · rw [if_pos (cast (nbI_eq hB (by decide)).symm h43), decide_eq_true h43, Bool.true_or, if_pos rfl]
        exact sg 1 (by decide) (fun _ => by rw [efT, if_pos h43, Int32.one_mul])
      · rw [if_neg (fun e => h43 (cast (nbI_eq hB (by decide)) e)), decide_eq_false h43, Bool.false_or]
        by_cases h45 : nb n B (q + 1) = 45
        · rw [if_pos (cast (nbI_eq hB (by decide)).symm h45), decide_eq_true h45, if_pos rfl]
          exact sg (-1) (by decide) (fun _ => by rw [efT, if_neg h43]; grind)
        · rw [if_neg (fun e => h45 (cast (nbI_eq hB (by decide)) e)), decide_eq_false h45, if_neg (by decide)]
          unfold f_X11_readsEdge_b103
          rw [if_pos rfl, Ev_some]
          exact ⟨rfl, τ2, rfl, A2, F2, fun u => by cases u⟩
    have e2 : setB 2 (nb n B q) = (decide (nb n B q = 114) || decide (nb n B q = 100)) := rfl
    rw [e2]
    by_cases h114 : nb n B q = 114
    · rw [if_pos (cast (nbI_eq hB (by decide)).symm h114), decide_eq_true h114, Bool.true_or, if_pos rfl, if_pos h114]
      exact rest 0 (by decide)
    · rw [if_neg (fun e => h114 (cast (nbI_eq hB (by decide)) e)), decide_eq_false h114, Bool.false_or, if_neg h114]
      by_cases h100 : nb n B q = 100
      · rw [if_pos (cast (nbI_eq hB (by decide)).symm h100), decide_eq_true h100, if_pos rfl]
        exact rest 1 (by decide)
      · rw [if_neg (fun e => h100 (cast (nbI_eq hB (by decide)) e)), decide_eq_false h100, if_neg (by decide)]
        unfold f_X11_readsEdge_b54
        rw [wrN (by omega) (by decide), rdN (by omega) (by decide), up_s2 ⟨rfl, rfl⟩, if_neg (show ¬ (0 : Int32) ≤ -1 by decide), Ev_some, mv_up (by decide)]
        exact ⟨rfl, _, rfl, A1.up (by decide), fun x hx => by rw [up_a (by omega)]; exact F1 x hx, fun u => by cases u⟩
end TM
