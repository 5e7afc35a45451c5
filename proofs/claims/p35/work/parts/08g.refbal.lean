/-! the reference: balances, what lacks, which; what seems -/
/-- what a side of value v adds to the balance of class j (0: flat sides) -/
def bal1 (v : Int32) (j : Nat) : Int32 := if j = 0 then (if v = 0 then 1 else 0) else if v = nI j then 1 else if v = -(nI j) then -1 else 0
def balV (ri dn : Nat → Int32) (r c p j : Nat) : Int32 := sm (fun s => bal1 (sdv ri dn r c p s) j) 0 4
section RC
variable {τ : Sg} {k r c : Nat}
theorem y_balanceOn {p j : Nat} (hz : Sz τ k r c) (hp : p < r * c) (hj : j < 10) : f_X11_balanceOn k (nI p) (nI j) τ = some (balV (τ (k + 2)) (τ (k + 3)) r c p j, τ) := by
  have h := lp_sm (L := fun n i a => f_X11_balanceOn_b5 k n (nI p) (nI j) a (nI i) τ) (m := 4) (g := fun s => bal1 (sdv (τ (k + 2)) (τ (k + 3)) r c p s) j) (E := fun a => some (a, τ)) (fun n a => by
    show f_X11_balanceOn_b5 k (n + 1) (nI p) (nI j) a (nI 4) τ = _
    simp (disch := omega) only [rdN, wrN, rdZ, wrZ, p_put_eq, call_some, nzN, boN, nI_1, nI_add, pk_mul, lit_4, lit_16, le_T, le_F, lt_T, lt_F, eq_T, eq_F, le_T0, le_F0, lt_F0, lt_T0, eq_T0, eq_F0, eqm_F, up_s2, up_n2, Ev_some, nz_0, nz_1, if_true, if_false, reduceIte, and_true, true_and, and_false, false_and, b2_0, b2_1, Bool.true_eq_false, Bool.false_eq_true, not_true_eq_false, not_false_eq_true, f_X11_balanceOn_b5]) (fun n s a hs => by
    show f_X11_balanceOn_b5 k (n + 1) (nI p) (nI j) a (nI s) τ = f_X11_balanceOn_b5 k n (nI p) (nI j) (a + _) (nI (s + 1)) τ
    unfold bal1
    rw [f_X11_balanceOn_b5, y_sideOf hz hp hs]
    rcases Nat.eq_zero_or_pos j with rfl | hj0
    · simp (disch := omega) only [rdN, wrN, rdZ, wrZ, p_put_eq, call_some, nzN, boN, nI_1, nI_add, pk_mul, lit_4, lit_16, le_T, le_F, lt_T, lt_F, eq_T, eq_F, le_T0, le_F0, lt_F0, lt_T0, eq_T0, eq_F0, eqm_F, up_s2, up_n2, Ev_some, nz_0, nz_1, if_true, if_false, reduceIte, and_true, true_and, and_false, false_and, b2_0, b2_1, Bool.true_eq_false, Bool.false_eq_true, not_true_eq_false, not_false_eq_true, f_X11_balanceOn_b35, f_X11_balanceOn_b65]
      by_cases h : sdv (τ (k + 2)) (τ (k + 3)) r c p s = 0 <;> simp [h]
    · have hj1 : ¬ j = 0 := by omega
      simp (disch := omega) only [rdN, wrN, rdZ, wrZ, p_put_eq, call_some, nzN, boN, nI_1, nI_add, pk_mul, lit_4, lit_16, le_T, le_F, lt_T, lt_F, eq_T, eq_F, le_T0, le_F0, lt_F0, lt_T0, eq_T0, eq_F0, eqm_F, up_s2, up_n2, Ev_some, nz_0, nz_1, if_true, if_false, reduceIte, and_true, true_and, and_false, false_and, b2_0, b2_1, Bool.true_eq_false, Bool.false_eq_true, not_true_eq_false, not_false_eq_true, f_X11_balanceOn_b63, f_X11_balanceOn_b65, hj1]
      rcases Classical.propComplete (sdv (τ (k + 2)) (τ (k + 3)) r c p s = nI j) with pc1 | pc1 <;> rcases Classical.propComplete (sdv (τ (k + 2)) (τ (k + 3)) r c p s = -(nI j)) with pc2 | pc2 <;> simp [pc1, pc2, b2]) fu 0 0 (by decide) (fu_lt (by decide))
  rw [Int32.zero_add] at h
  exact h
/-- the balance of class j of what is not lost -/
def balF (ri dn lo : Nat → Int32) (r c j : Nat) : Int32 := sm (fun p => if lo p = 0 then balV ri dn r c p j else 0) 0 (r * c)
theorem y_balanceOf {j : Nat} (hz : Sz τ k r c) (hj : j < 10) : f_X11_balanceOf k (nI j) τ = some (balF (τ (k + 2)) (τ (k + 3)) (τ (k + 8)) r c j, τ) := by
  have hrc := hz.rc
  have h := lp_sm (L := fun n i a => f_X11_balanceOf_b4 k n (nI j) a (nI i) τ) (m := r * c) (g := fun p => if τ (k + 8) p = 0 then balV (τ (k + 2)) (τ (k + 3)) r c p j else 0) (E := fun a => some (a, τ)) (fun n a => by
    show f_X11_balanceOf_b4 k (n + 1) (nI j) a (nI (r * c)) τ = _
    simp (disch := omega) only [rdN, wrN, rdZ, wrZ, p_put_eq, call_some, nzN, boN, nI_1, nI_add, pk_mul, lit_4, lit_16, le_T, le_F, lt_T, lt_F, eq_T, eq_F, le_T0, le_F0, lt_F0, lt_T0, eq_T0, eq_F0, eqm_F, up_s2, up_n2, Ev_some, nz_0, nz_1, if_true, if_false, reduceIte, and_true, true_and, and_false, false_and, b2_0, b2_1, Bool.true_eq_false, Bool.false_eq_true, not_true_eq_false, not_false_eq_true, f_X11_balanceOf_b4, y_cells hz]) (fun n i a hi => by
    show f_X11_balanceOf_b4 k (n + 1) (nI j) a (nI i) τ = f_X11_balanceOf_b4 k n (nI j) (a + _) (nI (i + 1)) τ
    simp (disch := omega) only [rdN, wrN, rdZ, wrZ, p_put_eq, call_some, nzN, boN, nI_1, nI_add, pk_mul, lit_4, lit_16, le_T, le_F, lt_T, lt_F, eq_T, eq_F, le_T0, le_F0, lt_F0, lt_T0, eq_T0, eq_F0, eqm_F, up_s2, up_n2, Ev_some, nz_0, nz_1, if_true, if_false, reduceIte, and_true, true_and, and_false, false_and, b2_0, b2_1, Bool.true_eq_false, Bool.false_eq_true, not_true_eq_false, not_false_eq_true, f_X11_balanceOf_b4, y_cells hz, y_balanceOn hz hi hj, f_X11_balanceOf_b32]
    by_cases h : τ (k + 8) i = 0 <;> simp [h]) fu 0 0 (Nat.zero_le _) (fu_lt (by omega))
  rw [Int32.zero_add] at h
  exact h
/-- the balance of class j of all pieces -/
def balA (ri dn : Nat → Int32) (r c j : Nat) : Int32 := sm (fun p => balV ri dn r c p j) 0 (r * c)
def lackB (ri dn lo : Nat → Int32) (r c : Nat) : Bool := (ff (fun j => !decide (balF ri dn lo r c j = balA ri dn r c j)) 0 10).isSome
theorem y_doesLack (hz : Sz τ k r c) : f_X11_doesLack k τ = some (b2 (lackB (τ (k + 2)) (τ (k + 3)) (τ (k + 8)) r c), τ) := by
  have hrc := hz.rc
  have h := lp_ff (L := fun n j => f_X11_doesLack_b2 k n (nI j) τ) (m := 10) (p := fun j => !decide (balF (τ (k + 2)) (τ (k + 3)) (τ (k + 8)) r c j = balA (τ (k + 2)) (τ (k + 3)) r c j)) (E := some (0, τ)) (F := fun _ => some (1, τ)) (fun n => by
    show f_X11_doesLack_b2 k (n + 1) (nI 10) τ = _
    simp (disch := omega) only [rdN, wrN, rdZ, wrZ, p_put_eq, call_some, nzN, boN, nI_1, nI_add, pk_mul, lit_4, lit_16, le_T, le_F, lt_T, lt_F, eq_T, eq_F, le_T0, le_F0, lt_F0, lt_T0, eq_T0, eq_F0, eqm_F, up_s2, up_n2, Ev_some, nz_0, nz_1, if_true, if_false, reduceIte, and_true, true_and, and_false, false_and, b2_0, b2_1, Bool.true_eq_false, Bool.false_eq_true, not_true_eq_false, not_false_eq_true, f_X11_doesLack_b2, L10]) (fun n j hj => by
    have h2 := lp_sm (L := fun n' i a => f_X11_doesLack_b12 k (f_X11_doesLack_b2 k n) n' (nI j) a (nI i) τ) (m := r * c) (g := fun p => balV (τ (k + 2)) (τ (k + 3)) r c p j) (E := fun a => if balF (τ (k + 2)) (τ (k + 3)) (τ (k + 8)) r c j = a then f_X11_doesLack_b2 k n (nI (j + 1)) τ else some (1, τ)) (fun n' a => by
      show f_X11_doesLack_b12 k (f_X11_doesLack_b2 k n) (n' + 1) (nI j) a (nI (r * c)) τ = _
      simp (disch := omega) only [rdN, wrN, rdZ, wrZ, p_put_eq, call_some, nzN, boN, nI_1, nI_add, pk_mul, lit_4, lit_16, le_T, le_F, lt_T, lt_F, eq_T, eq_F, le_T0, le_F0, lt_F0, lt_T0, eq_T0, eq_F0, eqm_F, up_s2, up_n2, Ev_some, nz_0, nz_1, if_true, if_false, reduceIte, and_true, true_and, and_false, false_and, b2_0, b2_1, Bool.true_eq_false, Bool.false_eq_true, not_true_eq_false, not_false_eq_true, f_X11_doesLack_b12, y_cells hz, y_balanceOf hz hj]) (fun n' i a hi => by
      show f_X11_doesLack_b12 k (f_X11_doesLack_b2 k n) (n' + 1) (nI j) a (nI i) τ = f_X11_doesLack_b12 k (f_X11_doesLack_b2 k n) n' (nI j) (a + _) (nI (i + 1)) τ
      simp (disch := omega) only [rdN, wrN, rdZ, wrZ, p_put_eq, call_some, nzN, boN, nI_1, nI_add, pk_mul, lit_4, lit_16, le_T, le_F, lt_T, lt_F, eq_T, eq_F, le_T0, le_F0, lt_F0, lt_T0, eq_T0, eq_F0, eqm_F, up_s2, up_n2, Ev_some, nz_0, nz_1, if_true, if_false, reduceIte, and_true, true_and, and_false, false_and, b2_0, b2_1, Bool.true_eq_false, Bool.false_eq_true, not_true_eq_false, not_false_eq_true, f_X11_doesLack_b12, y_cells hz, y_balanceOn hz hi hj]) fu 0 0 (Nat.zero_le _) (fu_lt (by omega))
    show f_X11_doesLack_b2 k (n + 1) (nI j) τ = if _ then _ else f_X11_doesLack_b2 k n (nI (j + 1)) τ
    rw [f_X11_doesLack_b2]
    simp (disch := omega) only [rdN, wrN, rdZ, wrZ, p_put_eq, call_some, nzN, boN, nI_1, nI_add, pk_mul, lit_4, lit_16, le_T, le_F, lt_T, lt_F, eq_T, eq_F, le_T0, le_F0, lt_F0, lt_T0, eq_T0, eq_F0, eqm_F, up_s2, up_n2, Ev_some, nz_0, nz_1, if_true, if_false, reduceIte, and_true, true_and, and_false, false_and, b2_0, b2_1, Bool.true_eq_false, Bool.false_eq_true, not_true_eq_false, not_false_eq_true, L10]
    refine Eq.trans h2 ?_
    rw [Int32.zero_add, Nat.sub_zero]
    show (if balF (τ (k + 2)) (τ (k + 3)) (τ (k + 8)) r c j = balA (τ (k + 2)) (τ (k + 3)) r c j then _ else _) = _
    by_cases h : balF (τ (k + 2)) (τ (k + 3)) (τ (k + 8)) r c j = balA (τ (k + 2)) (τ (k + 3)) r c j <;> simp [h]) fu 0 (by decide) (fu_lt (by decide))
  unfold lackB
  refine Eq.trans h ?_
  rw [Nat.sub_zero]
  cases ff (fun j => !decide (balF (τ (k + 2)) (τ (k + 3)) (τ (k + 8)) r c j = balA (τ (k + 2)) (τ (k + 3)) r c j)) 0 10 <;> rfl
/-- the balance of class j of all pieces but p -/
def balX (ri dn : Nat → Int32) (r c p j : Nat) : Int32 := sm (fun q => if q = p then 0 else balV ri dn r c q j) 0 (r * c)
/-- all of n numbers from i on have p -/
def al (p : Nat → Bool) : Nat → Nat → Bool
  | _, 0 => true
  | i, n + 1 => p i && al p (i + 1) n
theorem al_iff {p : Nat → Bool} : ∀ (n i : Nat), al p i n = true ↔ ∀ j, i ≤ j → j < i + n → p j = true
  | 0, i => ⟨fun _ j a b => by omega, fun _ => rfl⟩
  | n + 1, i => by
    unfold al
    rw [Bool.and_eq_true, al_iff n (i + 1)]
    refine ⟨fun ⟨a, b⟩ j h1 h2 => ?_, fun h => ⟨h i (by omega) (by omega), fun j a b => h j (by omega) (by omega)⟩⟩
    rcases Nat.lt_or_ge i j with q | q
    · exact b j (by omega) (by omega)
    · rw [show j = i by omega]; exact a
/-- a loop that goes up to m and carries a mark that may fall -/
theorem lp_al {L : Nat → Nat → Bool → Rs} {m : Nat} {p : Nat → Bool} {E : Bool → Rs} (he : ∀ n a, L (n + 1) m a = E a) (hs : ∀ n i a, i < m → L (n + 1) i a = L n (i + 1) (a && p i)) : ∀ (n i : Nat) (a : Bool), i ≤ m → m - i < n → L n i a = E (a && al p i (m - i))
  | 0, _, _, _, h => absurd h (Nat.not_lt_zero _)
  | n + 1, i, a, hi, h => by
    rcases Nat.lt_or_ge i m with q | q
    · rw [hs n i a q, lp_al he hs n (i + 1) _ (by omega) (by omega), show m - i = (m - (i + 1)) + 1 by omega, al, Bool.and_assoc]
    · have : i = m := by omega
      subst this
      rw [he, Nat.sub_self, al, Bool.and_true]
/-- the piece p alone may lack -/
def susB (ri dn lo : Nat → Int32) (r c p : Nat) : Bool := al (fun j => decide (balX ri dn r c p j = balF ri dn lo r c j)) 0 10
/-- bits of those of n places from i on that have p, upon a -/
def bitsV (p : Nat → Bool) : Nat → Nat → Int32 → Int32
  | _, 0, a => a
  | i, n + 1, a => bitsV p (i + 1) n (if p i = true then a ||| (1 <<< (nI i &&& 31)) else a)
theorem bits_congr {p q : Nat → Bool} : ∀ (n i : Nat) (a : Int32), (∀ j, i ≤ j → j < i + n → p j = q j) → bitsV p i n a = bitsV q i n a
  | 0, _, _, _ => rfl
  | n + 1, i, a, e => by
    unfold bitsV
    rw [e i (by omega) (by omega)]
    exact bits_congr n (i + 1) _ (fun j a b => e j (by omega) (by omega))
theorem lp_bits {L : Nat → Nat → Int32 → Rs} {m : Nat} {p : Nat → Bool} {E : Int32 → Rs} (he : ∀ n a, L (n + 1) m a = E a) (hs : ∀ n i a, i < m → L (n + 1) i a = L n (i + 1) (if p i = true then a ||| (1 <<< (nI i &&& 31)) else a)) : ∀ (n i : Nat) (a : Int32), i ≤ m → m - i < n → L n i a = E (bitsV p i (m - i) a)
  | 0, _, _, _, h => absurd h (Nat.not_lt_zero _)
  | n + 1, i, a, hi, h => by
    rcases Nat.lt_or_ge i m with q | q
    · rw [hs n i a q, lp_bits he hs n (i + 1) _ (by omega) (by omega), show m - i = (m - (i + 1)) + 1 by omega, bitsV]
    · have : i = m := by omega
      subst this
      rw [he, Nat.sub_self, bitsV]
theorem or_0 {a : Int32} : a ||| 0 = a := by simp
theorem y_which_in {p n : Nat} {R : Int32 → Int32 → Sg → Rs} {a : Int32} (hz : Sz τ k r c) (hp : p < r * c) : f_X11_which_b26 k R fu a (nI p) 1 0 τ = R (if susB (τ (k + 2)) (τ (k + 3)) (τ (k + 8)) r c p = true then a ||| (1 <<< (nI p &&& 31)) else a) (nI (p + 1)) τ := by
  have hrc := hz.rc
  have h := lp_al (L := fun n j b => f_X11_which_b26 k R n a (nI p) (b2 b) (nI j) τ) (m := 10) (p := fun j => decide (balX (τ (k + 2)) (τ (k + 3)) r c p j = balF (τ (k + 2)) (τ (k + 3)) (τ (k + 8)) r c j)) (E := fun b => R (if b = true then a ||| (1 <<< (nI p &&& 31)) else a) (nI (p + 1)) τ) (fun n b => by
    show f_X11_which_b26 k R (n + 1) a (nI p) (b2 b) (nI 10) τ = _
    simp (disch := omega) only [rdN, wrN, rdZ, wrZ, p_put_eq, call_some, nzN, boN, nI_1, nI_add, pk_mul, lit_4, lit_16, le_T, le_F, lt_T, lt_F, eq_T, eq_F, le_T0, le_F0, lt_F0, lt_T0, eq_T0, eq_F0, eqm_F, up_s2, up_n2, Ev_some, nz_0, nz_1, if_true, if_false, reduceIte, and_true, true_and, and_false, false_and, b2_0, b2_1, Bool.true_eq_false, Bool.false_eq_true, not_true_eq_false, not_false_eq_true, f_X11_which_b26, L10, f_X11_which_b116, or_0]
    cases b <;> simp) (fun n j b hj => by
    have h2 := lp_sm (L := fun n' i x => f_X11_which_b39 k R (f_X11_which_b26 k R n) n' a (nI p) (b2 b) (nI j) x (nI i) τ) (m := r * c) (g := fun q => if q = p then 0 else balV (τ (k + 2)) (τ (k + 3)) r c q j) (E := fun x => f_X11_which_b26 k R n a (nI p) (b2 (b && decide (x = balF (τ (k + 2)) (τ (k + 3)) (τ (k + 8)) r c j))) (nI (j + 1)) τ) (fun n' x => by
      show f_X11_which_b39 k R (f_X11_which_b26 k R n) (n' + 1) a (nI p) (b2 b) (nI j) x (nI (r * c)) τ = _
      simp (disch := omega) only [rdN, wrN, rdZ, wrZ, p_put_eq, call_some, nzN, boN, nI_1, nI_add, pk_mul, lit_4, lit_16, le_T, le_F, lt_T, lt_F, eq_T, eq_F, le_T0, le_F0, lt_F0, lt_T0, eq_T0, eq_F0, eqm_F, up_s2, up_n2, Ev_some, nz_0, nz_1, if_true, if_false, reduceIte, and_true, true_and, and_false, false_and, b2_0, b2_1, Bool.true_eq_false, Bool.false_eq_true, not_true_eq_false, not_false_eq_true, f_X11_which_b39, y_cells hz, y_balanceOf hz hj, f_X11_which_b96, f_X11_which_b97]
      cases b
      · simp [b2]
      · by_cases h : x = balF (τ (k + 2)) (τ (k + 3)) (τ (k + 8)) r c j <;> simp [h, b2]) (fun n' i x hi => by
      show f_X11_which_b39 k R (f_X11_which_b26 k R n) (n' + 1) a (nI p) (b2 b) (nI j) x (nI i) τ = f_X11_which_b39 k R (f_X11_which_b26 k R n) n' a (nI p) (b2 b) (nI j) (x + _) (nI (i + 1)) τ
      have e : (nI i = nI p) = (i = p) := propext (nI_eq (by omega) (by omega))
      simp (disch := omega) only [rdN, wrN, rdZ, wrZ, p_put_eq, call_some, nzN, boN, nI_1, nI_add, pk_mul, lit_4, lit_16, le_T, le_F, lt_T, lt_F, eq_T, eq_F, le_T0, le_F0, lt_F0, lt_T0, eq_T0, eq_F0, eqm_F, up_s2, up_n2, Ev_some, nz_0, nz_1, if_true, if_false, reduceIte, and_true, true_and, and_false, false_and, b2_0, b2_1, Bool.true_eq_false, Bool.false_eq_true, not_true_eq_false, not_false_eq_true, f_X11_which_b39, y_cells hz, y_balanceOn hz hi hj, f_X11_which_b68, e]
      by_cases h : i = p <;> simp [h]) fu 0 0 (Nat.zero_le _) (fu_lt (by omega))
    show f_X11_which_b26 k R (n + 1) a (nI p) (b2 b) (nI j) τ = f_X11_which_b26 k R n a (nI p) (b2 (b && _)) (nI (j + 1)) τ
    rw [f_X11_which_b26]
    simp (disch := omega) only [rdN, wrN, rdZ, wrZ, p_put_eq, call_some, nzN, boN, nI_1, nI_add, pk_mul, lit_4, lit_16, le_T, le_F, lt_T, lt_F, eq_T, eq_F, le_T0, le_F0, lt_F0, lt_T0, eq_T0, eq_F0, eqm_F, up_s2, up_n2, Ev_some, nz_0, nz_1, if_true, if_false, reduceIte, and_true, true_and, and_false, false_and, b2_0, b2_1, Bool.true_eq_false, Bool.false_eq_true, not_true_eq_false, not_false_eq_true, L10]
    refine Eq.trans h2 ?_
    rw [Int32.zero_add, Nat.sub_zero]
    rfl) fu 0 true (by decide) (fu_lt (by decide))
  exact h
theorem y_which (hz : Sz τ k r c) : f_X11_which k τ = some (if lackB (τ (k + 2)) (τ (k + 3)) (τ (k + 8)) r c = true then bitsV (susB (τ (k + 2)) (τ (k + 3)) (τ (k + 8)) r c) 0 (r * c) 0 else 0, τ) := by
  have hrc := hz.rc
  unfold f_X11_which
  simp (disch := omega) only [rdN, wrN, rdZ, wrZ, p_put_eq, call_some, nzN, boN, nI_1, nI_add, pk_mul, lit_4, lit_16, le_T, le_F, lt_T, lt_F, eq_T, eq_F, le_T0, le_F0, lt_F0, lt_T0, eq_T0, eq_F0, eqm_F, up_s2, up_n2, Ev_some, nz_0, nz_1, if_true, if_false, reduceIte, and_true, true_and, and_false, false_and, b2_0, b2_1, Bool.true_eq_false, Bool.false_eq_true, not_true_eq_false, not_false_eq_true, y_doesLack hz]
  have h := lp_bits (L := fun n i a => f_X11_which_b13 k n a (nI i) τ) (m := r * c) (p := susB (τ (k + 2)) (τ (k + 3)) (τ (k + 8)) r c) (E := fun a => some (a, τ)) (fun n a => by
    show f_X11_which_b13 k (n + 1) a (nI (r * c)) τ = _
    simp (disch := omega) only [rdN, wrN, rdZ, wrZ, p_put_eq, call_some, nzN, boN, nI_1, nI_add, pk_mul, lit_4, lit_16, le_T, le_F, lt_T, lt_F, eq_T, eq_F, le_T0, le_F0, lt_F0, lt_T0, eq_T0, eq_F0, eqm_F, up_s2, up_n2, Ev_some, nz_0, nz_1, if_true, if_false, reduceIte, and_true, true_and, and_false, false_and, b2_0, b2_1, Bool.true_eq_false, Bool.false_eq_true, not_true_eq_false, not_false_eq_true, f_X11_which_b13, y_cells hz]) (fun n i a hi => by
    show f_X11_which_b13 k (n + 1) a (nI i) τ = f_X11_which_b13 k n _ (nI (i + 1)) τ
    rw [f_X11_which_b13]
    simp (disch := omega) only [rdN, wrN, rdZ, wrZ, p_put_eq, call_some, nzN, boN, nI_1, nI_add, pk_mul, lit_4, lit_16, le_T, le_F, lt_T, lt_F, eq_T, eq_F, le_T0, le_F0, lt_F0, lt_T0, eq_T0, eq_F0, eqm_F, up_s2, up_n2, Ev_some, nz_0, nz_1, if_true, if_false, reduceIte, and_true, true_and, and_false, false_and, b2_0, b2_1, Bool.true_eq_false, Bool.false_eq_true, not_true_eq_false, not_false_eq_true, y_cells hz]
    rw [y_which_in hz hi]
    exact n) fu 0 0 (Nat.zero_le _) (fu_lt (by omega))
  by_cases hl : lackB (τ (k + 2)) (τ (k + 3)) (τ (k + 8)) r c = true
  · rw [if_pos hl, if_neg (by rw [hl]; decide)]
    exact h
  · rw [if_neg hl, if_pos (by simpa using hl)]
/-- sides s of p and t of q seem to fit -/
def see1 (ri dn : Nat → Int32) (r c p q s t : Nat) : Bool := !(decide (bs r c p s = some q) && decide (t = (s + 2) % 4)) && !(decide (sdv ri dn r c p s = 0)) && decide (sdv ri dn r c p s + sdv ri dn r c q t = 0)
def seeV (ri dn : Nat → Int32) (r c p q : Nat) : Int32 := sm (fun s => sm (fun t => b2 (see1 ri dn r c p q s t)) 0 4) 0 4
def semV (ri dn lo : Nat → Int32) (r c : Nat) : Int32 := sm (fun p => sm (fun q => if lo p = 1 ∨ lo q = 1 then 0 else seeV ri dn r c p q) (p + 1) (r * c - (p + 1))) 0 (r * c)
theorem bsI_eq {o : Option Nat} {q : Nat} (ho : ∀ x, o = some x → x < 2 ^ 31) (hq : q < 2 ^ 31) : (bsI o = nI q) = (o = some q) := by
  cases o with
  | none => exact propext ⟨fun e => absurd e.symm (nI_nm1 hq), fun e => by cases e⟩
  | some x => exact propext ⟨fun e => by rw [(nI_eq (ho x rfl) hq).mp e], fun e => by cases e; rfl⟩
theorem y_seems_in {p q : Nat} {R4 : Int32 → Int32 → Sg → Rs} {R16 : Int32 → Int32 → Int32 → Sg → Rs} {a : Int32} (hz : Sz τ k r c) (hp : p < r * c) (hq : q < r * c) : f_X11_seemsOf_b50 k R4 R16 fu a (nI p) (nI q) 0 τ = R16 (a + seeV (τ (k + 2)) (τ (k + 3)) r c p q) (nI p) (nI (q + 1)) τ := by
  have hrc := hz.rc
  have h := lp_sm (L := fun n s x => f_X11_seemsOf_b50 k R4 R16 n x (nI p) (nI q) (nI s) τ) (m := 4) (g := fun s => sm (fun t => b2 (see1 (τ (k + 2)) (τ (k + 3)) r c p q s t)) 0 4) (E := fun x => R16 x (nI p) (nI (q + 1)) τ) (fun n x => by
    show f_X11_seemsOf_b50 k R4 R16 (n + 1) x (nI p) (nI q) (nI 4) τ = _
    simp (disch := omega) only [rdN, wrN, rdZ, wrZ, p_put_eq, call_some, nzN, boN, nI_1, nI_add, pk_mul, lit_4, lit_16, le_T, le_F, lt_T, lt_F, eq_T, eq_F, le_T0, le_F0, lt_F0, lt_T0, eq_T0, eq_F0, eqm_F, up_s2, up_n2, Ev_some, nz_0, nz_1, if_true, if_false, reduceIte, and_true, true_and, and_false, false_and, b2_0, b2_1, Bool.true_eq_false, Bool.false_eq_true, not_true_eq_false, not_false_eq_true, f_X11_seemsOf_b50, f_X11_seemsOf_b147]) (fun n s x hs => by
    have h2 := lp_sm (L := fun n' t y => f_X11_seemsOf_b59 k R4 R16 (f_X11_seemsOf_b50 k R4 R16 n) n' y (nI p) (nI q) (nI s) (nI t) τ) (m := 4) (g := fun t => b2 (see1 (τ (k + 2)) (τ (k + 3)) r c p q s t)) (E := fun y => f_X11_seemsOf_b50 k R4 R16 n y (nI p) (nI q) (nI (s + 1)) τ) (fun n' y => by
      show f_X11_seemsOf_b59 k R4 R16 (f_X11_seemsOf_b50 k R4 R16 n) (n' + 1) y (nI p) (nI q) (nI s) (nI 4) τ = _
      simp (disch := omega) only [rdN, wrN, rdZ, wrZ, p_put_eq, call_some, nzN, boN, nI_1, nI_add, pk_mul, lit_4, lit_16, le_T, le_F, lt_T, lt_F, eq_T, eq_F, le_T0, le_F0, lt_F0, lt_T0, eq_T0, eq_F0, eqm_F, up_s2, up_n2, Ev_some, nz_0, nz_1, if_true, if_false, reduceIte, and_true, true_and, and_false, false_and, b2_0, b2_1, Bool.true_eq_false, Bool.false_eq_true, not_true_eq_false, not_false_eq_true, f_X11_seemsOf_b59]) (fun n' t y ht => by
      show f_X11_seemsOf_b59 k R4 R16 (f_X11_seemsOf_b50 k R4 R16 n) (n' + 1) y (nI p) (nI q) (nI s) (nI t) τ = f_X11_seemsOf_b59 k R4 R16 (f_X11_seemsOf_b50 k R4 R16 n) n' (y + _) (nI p) (nI q) (nI s) (nI (t + 1)) τ
      have e8 : nI s + 2 - (nI s + 2) / nI 4 * nI 4 = nI ((s + 2) % 4) := opp_tab s hs
      have e9 : (bsI (bs r c p s) = nI q) = (bs r c p s = some q) := bsI_eq (fun x hx => by have := bs_lt hz.2.2.1 hz.2.2.2 hp hs hx; omega) (by omega)
      have e10 : (nI t = nI ((s + 2) % 4)) = (t = (s + 2) % 4) := propext (nI_eq (by omega) (by omega))
      rw [f_X11_seemsOf_b59]
      simp (disch := omega) only [rdN, wrN, rdZ, wrZ, p_put_eq, call_some, nzN, boN, nI_1, nI_add, pk_mul, lit_4, lit_16, le_T, le_F, lt_T, lt_F, eq_T, eq_F, le_T0, le_F0, lt_F0, lt_T0, eq_T0, eq_F0, eqm_F, up_s2, up_n2, Ev_some, nz_0, nz_1, if_true, if_false, reduceIte, and_true, true_and, and_false, false_and, b2_0, b2_1, Bool.true_eq_false, Bool.false_eq_true, not_true_eq_false, not_false_eq_true, y_beside hz hp hs, y_sideOf hz hp hs, y_sideOf hz hq ht, e8, e9, e10, f_X11_seemsOf_b91, f_X11_seemsOf_b92, f_X11_seemsOf_b132, f_X11_seemsOf_b133, see1]
      rcases Classical.propComplete (bs r c p s = some q) with pc1 | pc1 <;> rcases Classical.propComplete (t = (s + 2) % 4) with pc2 | pc2 <;> rcases Classical.propComplete (sdv (τ (k + 2)) (τ (k + 3)) r c p s = 0) with pc3 | pc3 <;> rcases Classical.propComplete (sdv (τ (k + 2)) (τ (k + 3)) r c p s + sdv (τ (k + 2)) (τ (k + 3)) r c q t = 0) with pc4 | pc4 <;> simp [pc1, pc2, pc3, pc4, b2]) fu 0 x (by decide) (fu_lt (by decide))
    show f_X11_seemsOf_b50 k R4 R16 (n + 1) x (nI p) (nI q) (nI s) τ = f_X11_seemsOf_b50 k R4 R16 n (x + _) (nI p) (nI q) (nI (s + 1)) τ
    rw [f_X11_seemsOf_b50]
    simp (disch := omega) only [rdN, wrN, rdZ, wrZ, p_put_eq, call_some, nzN, boN, nI_1, nI_add, pk_mul, lit_4, lit_16, le_T, le_F, lt_T, lt_F, eq_T, eq_F, le_T0, le_F0, lt_F0, lt_T0, eq_T0, eq_F0, eqm_F, up_s2, up_n2, Ev_some, nz_0, nz_1, if_true, if_false, reduceIte, and_true, true_and, and_false, false_and, b2_0, b2_1, Bool.true_eq_false, Bool.false_eq_true, not_true_eq_false, not_false_eq_true]
    exact h2) fu 0 a (by decide) (fu_lt (by decide))
  exact h
theorem y_seemsOf (hz : Sz τ k r c) : f_X11_seemsOf k τ = some (semV (τ (k + 2)) (τ (k + 3)) (τ (k + 8)) r c, τ) := by
  have hrc := hz.rc
  have h := lp_sm (L := fun n p a => f_X11_seemsOf_b4 k n a (nI p) τ) (m := r * c) (g := fun p => sm (fun q => if τ (k + 8) p = 1 ∨ τ (k + 8) q = 1 then 0 else seeV (τ (k + 2)) (τ (k + 3)) r c p q) (p + 1) (r * c - (p + 1))) (E := fun a => some (a, τ)) (fun n a => by
    show f_X11_seemsOf_b4 k (n + 1) a (nI (r * c)) τ = _
    simp (disch := omega) only [rdN, wrN, rdZ, wrZ, p_put_eq, call_some, nzN, boN, nI_1, nI_add, pk_mul, lit_4, lit_16, le_T, le_F, lt_T, lt_F, eq_T, eq_F, le_T0, le_F0, lt_F0, lt_T0, eq_T0, eq_F0, eqm_F, up_s2, up_n2, Ev_some, nz_0, nz_1, if_true, if_false, reduceIte, and_true, true_and, and_false, false_and, b2_0, b2_1, Bool.true_eq_false, Bool.false_eq_true, not_true_eq_false, not_false_eq_true, f_X11_seemsOf_b4, y_cells hz]) (fun n p a hp => by
    have h2 := lp_sm (L := fun n' q x => f_X11_seemsOf_b16 k (f_X11_seemsOf_b4 k n) n' x (nI p) (nI q) τ) (m := r * c) (g := fun q => if τ (k + 8) p = 1 ∨ τ (k + 8) q = 1 then 0 else seeV (τ (k + 2)) (τ (k + 3)) r c p q) (E := fun x => f_X11_seemsOf_b4 k n x (nI (p + 1)) τ) (fun n' x => by
      show f_X11_seemsOf_b16 k (f_X11_seemsOf_b4 k n) (n' + 1) x (nI p) (nI (r * c)) τ = _
      simp (disch := omega) only [rdN, wrN, rdZ, wrZ, p_put_eq, call_some, nzN, boN, nI_1, nI_add, pk_mul, lit_4, lit_16, le_T, le_F, lt_T, lt_F, eq_T, eq_F, le_T0, le_F0, lt_F0, lt_T0, eq_T0, eq_F0, eqm_F, up_s2, up_n2, Ev_some, nz_0, nz_1, if_true, if_false, reduceIte, and_true, true_and, and_false, false_and, b2_0, b2_1, Bool.true_eq_false, Bool.false_eq_true, not_true_eq_false, not_false_eq_true, f_X11_seemsOf_b16, y_cells hz]) (fun n' q x hq => by
      show f_X11_seemsOf_b16 k (f_X11_seemsOf_b4 k n) (n' + 1) x (nI p) (nI q) τ = f_X11_seemsOf_b16 k (f_X11_seemsOf_b4 k n) n' (x + _) (nI p) (nI (q + 1)) τ
      rw [f_X11_seemsOf_b16]
      simp (disch := omega) only [rdN, wrN, rdZ, wrZ, p_put_eq, call_some, nzN, boN, nI_1, nI_add, pk_mul, lit_4, lit_16, le_T, le_F, lt_T, lt_F, eq_T, eq_F, le_T0, le_F0, lt_F0, lt_T0, eq_T0, eq_F0, eqm_F, up_s2, up_n2, Ev_some, nz_0, nz_1, if_true, if_false, reduceIte, and_true, true_and, and_false, false_and, b2_0, b2_1, Bool.true_eq_false, Bool.false_eq_true, not_true_eq_false, not_false_eq_true, y_cells hz, f_X11_seemsOf_b147, y_seems_in hz hp hq]
      by_cases h1 : τ (k + 8) p = 1 <;> by_cases h2 : τ (k + 8) q = 1 <;> simp [h1, h2]) fu (p + 1) a (by omega) (fu_lt (by omega))
    show f_X11_seemsOf_b4 k (n + 1) a (nI p) τ = f_X11_seemsOf_b4 k n (a + _) (nI (p + 1)) τ
    rw [f_X11_seemsOf_b4]
    simp (disch := omega) only [rdN, wrN, rdZ, wrZ, p_put_eq, call_some, nzN, boN, nI_1, nI_add, pk_mul, lit_4, lit_16, le_T, le_F, lt_T, lt_F, eq_T, eq_F, le_T0, le_F0, lt_F0, lt_T0, eq_T0, eq_F0, eqm_F, up_s2, up_n2, Ev_some, nz_0, nz_1, if_true, if_false, reduceIte, and_true, true_and, and_false, false_and, b2_0, b2_1, Bool.true_eq_false, Bool.false_eq_true, not_true_eq_false, not_false_eq_true, y_cells hz]
    exact h2) fu 0 0 (Nat.zero_le _) (fu_lt (by omega))
  rw [Int32.zero_add, Nat.sub_zero] at h
  exact h
end RC
