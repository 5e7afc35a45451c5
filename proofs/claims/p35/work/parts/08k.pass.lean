/-! the reference keeps all of its game at a place, and brings it back -/
/-- the number that comes to place b of a kept game -/
def kv (τ : Sg) (k b : Nat) : Int32 := if b < 112 then τ (k + 2 + b / 16) (b % 16) else if b < 130 then τ (k + 9 + (b - 112) / 6) ((b - 112) % 6) else τ k (11 + (b - 130))
/-- n numbers are kept at w -/
def Kst (υ τ : Sg) (k w n : Nat) : Prop := (∀ a, a ≠ k → a ≠ k + 18 → υ a = τ a) ∧ (∀ b, b ≠ 27 → υ k b = τ k b) ∧ υ k 27 = nI (200 * w + n) ∧ (∀ b, b < 200 * w ∨ 200 * w + n ≤ b → υ (k + 18) b = τ (k + 18) b) ∧ ∀ b, b < n → υ (k + 18) (200 * w + b) = kv τ k b
theorem svd_in {τ : Sg} {k a s cur y : Nat} (h : cur ≤ y ∧ y < cur + s) : svd τ k a s cur (k + 18) y = τ a (y - cur) := if_pos ⟨rfl, h⟩
theorem svd_out {τ : Sg} {k a s cur y : Nat} (h : ¬ (cur ≤ y ∧ y < cur + s)) : svd τ k a s cur (k + 18) y = τ (k + 18) y := by
  unfold svd
  rw [if_neg (fun q => h q.2), if_neg (by omega)]
theorem svd_o {τ : Sg} {k a s cur x : Nat} (h : x ≠ k) (h2 : x ≠ k + 18) : svd τ k a s cur x = τ x := by
  funext y
  unfold svd
  rw [if_neg (fun q => h2 q.1), if_neg (fun q => h q.1)]
theorem svd_k {τ : Sg} {k a s cur b : Nat} (h : b ≠ 27) : svd τ k a s cur k b = τ k b := by
  unfold svd
  rw [if_neg (by omega), if_neg (fun q => h q.2)]
theorem svd_27 {τ : Sg} {k a s cur : Nat} : svd τ k a s cur k 27 = nI (cur + s) := by
  unfold svd
  rw [if_neg (by omega), if_pos ⟨rfl, rfl⟩]
theorem Kst.step {υ τ : Sg} {k w n a m : Nat} (hw : w ≤ 1) (h : Kst υ τ k w n) (h26 : τ k 26 = 1) (hm : m < 100) (hn : n + m ≤ 134) (ha : a ≠ k + 18 ∧ a ≠ k) (hv : ∀ b, n ≤ b → b < n + m → kv τ k b = τ a (b - n)) : Ev (f_X11_passes k a m υ) (fun _ φ => Kst φ τ k w (n + m)) := by
  obtain ⟨h1, h2, h3, h4, h5⟩ := h
  refine (e_keep (cur := 200 * w + n) (by rw [h2 26 (by decide), h26]) h3 hm (by omega) ha).mono (fun _ φ e => ?_)
  subst e
  refine ⟨fun x p q => ?_, fun b p => ?_, ?_, fun b p => ?_, fun b p => ?_⟩
  · rw [svd_o p q, h1 x p q]
  · rw [svd_k p, h2 b p]
  · rw [svd_27, Nat.add_assoc]
  · rw [svd_out (by omega), h4 b (by omega)]
  · rcases Nat.lt_or_ge b n with u | u
    · rw [svd_out (by omega), h5 b u]
    · rw [svd_in (by omega), h1 a ha.2 ha.1, hv b u p]
      congr 1
      omega
theorem Kst.s16 {υ τ : Sg} {k w j : Nat} (hw : w ≤ 1) (hj : j < 7) (h : Kst υ τ k w (16 * j)) (h26 : τ k 26 = 1) : Ev (f_X11_passes k (k + 2 + j) 16 υ) (fun _ φ => Kst φ τ k w (16 * (j + 1))) := by
  refine (h.step hw h26 (m := 16) (by decide) (by omega) (by omega) (fun b p q => ?_)).mono (fun _ φ e => ?_)
  · unfold kv
    rw [if_pos (by omega), show b / 16 = j by omega, show b % 16 = b - 16 * j by omega]
  · rw [show 16 * (j + 1) = 16 * j + 16 by omega]; exact e
theorem Kst.s6 {υ τ : Sg} {k w j : Nat} (hw : w ≤ 1) (hj : j < 3) (h : Kst υ τ k w (112 + 6 * j)) (h26 : τ k 26 = 1) : Ev (f_X11_passes k (k + 9 + j) 6 υ) (fun _ φ => Kst φ τ k w (112 + 6 * (j + 1))) := by
  refine (h.step hw h26 (m := 6) (by decide) (by omega) (by omega) (fun b p q => ?_)).mono (fun _ φ e => ?_)
  · unfold kv
    rw [if_neg (by omega), if_pos (by omega), show (b - 112) / 6 = j by omega, show (b - 112) % 6 = b - (112 + 6 * j) by omega]
  · rw [show 112 + 6 * (j + 1) = 112 + 6 * j + 6 by omega]; exact e
theorem Kst.t16 {υ τ : Sg} {k w n : Nat} (j a m : Nat) (hw : w ≤ 1) (hj : j < 7) (h : Kst υ τ k w n) (h26 : τ k 26 = 1) (hn : n = 16 * j) (ha : a = k + 2 + j) (hm : m = 16 * (j + 1)) : Ev (f_X11_passes k a 16 υ) (fun _ φ => Kst φ τ k w m) := by
  subst hn ha hm
  exact h.s16 hw hj h26
theorem Kst.t6 {υ τ : Sg} {k w n : Nat} (j a m : Nat) (hw : w ≤ 1) (hj : j < 3) (h : Kst υ τ k w n) (h26 : τ k 26 = 1) (hn : n = 112 + 6 * j) (ha : a = k + 9 + j) (hm : m = 112 + 6 * (j + 1)) : Ev (f_X11_passes k a 6 υ) (fun _ φ => Kst φ τ k w m) := by
  subst hn ha hm
  exact h.s6 hw hj h26
theorem Kst.s1 {υ τ : Sg} {k w j : Nat} {K : Int32 → Sg → Rs} {Q : Int32 → Sg → Prop} (hw : w ≤ 1) (hj : j < 4) (h : Kst υ τ k w (130 + j)) (h26 : τ k 26 = 1) (hk : ∀ φ, Kst φ τ k w (130 + (j + 1)) → Ev (K (τ k (11 + j)) φ) Q) : Ev (p_call (f_X11_passOne k (υ k (11 + j)) υ) K) Q := by
  obtain ⟨h1, h2, h3, h4, h5⟩ := h
  have e26 : υ k 26 = 1 := (h2 26 (by decide)).trans h26
  have e11 : υ k (11 + j) = τ k (11 + j) := h2 _ (by omega)
  unfold f_X11_passOne f_X11_passOne_b20 f_X11_passOne_b38
  rw [e26, if_neg (by decide), if_neg (by decide), h3, wrN (by omega) (by decide), p_put_eq, call_some, e11]
  refine hk _ ⟨fun x p q => ?_, fun b p => ?_, ?_, fun b p => ?_, fun b p => ?_⟩
  · rw [up_a p, up_a q, h1 x p q]
  · simp (disch := omega) only [rdN, wrN, rdZ, wrZ, p_put_eq, call_some, nzN, boN, nI_1, nI_add, pk_mul, lit_4, lit_16, le_T, le_F, lt_T, lt_F, eq_T, eq_F, le_T0, le_F0, lt_F0, lt_T0, eq_T0, eq_F0, eqm_F, up_s2, up_n2, Ev_some, nz_0, nz_1, if_true, if_false, reduceIte, and_true, true_and, and_false, false_and, b2_0, b2_1, Bool.true_eq_false, Bool.false_eq_true, not_true_eq_false, not_false_eq_true, h2 b p]
  · simp (disch := omega) only [rdN, wrN, rdZ, wrZ, p_put_eq, call_some, nzN, boN, nI_1, nI_add, pk_mul, lit_4, lit_16, le_T, le_F, lt_T, lt_F, eq_T, eq_F, le_T0, le_F0, lt_F0, lt_T0, eq_T0, eq_F0, eqm_F, up_s2, up_n2, Ev_some, nz_0, nz_1, if_true, if_false, reduceIte, and_true, true_and, and_false, false_and, b2_0, b2_1, Bool.true_eq_false, Bool.false_eq_true, not_true_eq_false, not_false_eq_true, h3]
  · simp (disch := omega) only [rdN, wrN, rdZ, wrZ, p_put_eq, call_some, nzN, boN, nI_1, nI_add, pk_mul, lit_4, lit_16, le_T, le_F, lt_T, lt_F, eq_T, eq_F, le_T0, le_F0, lt_F0, lt_T0, eq_T0, eq_F0, eqm_F, up_s2, up_n2, Ev_some, nz_0, nz_1, if_true, if_false, reduceIte, and_true, true_and, and_false, false_and, b2_0, b2_1, Bool.true_eq_false, Bool.false_eq_true, not_true_eq_false, not_false_eq_true, h4 b (by omega)]
  · rcases Nat.lt_or_ge b (130 + j) with u | u
    · simp (disch := omega) only [rdN, wrN, rdZ, wrZ, p_put_eq, call_some, nzN, boN, nI_1, nI_add, pk_mul, lit_4, lit_16, le_T, le_F, lt_T, lt_F, eq_T, eq_F, le_T0, le_F0, lt_F0, lt_T0, eq_T0, eq_F0, eqm_F, up_s2, up_n2, Ev_some, nz_0, nz_1, if_true, if_false, reduceIte, and_true, true_and, and_false, false_and, b2_0, b2_1, Bool.true_eq_false, Bool.false_eq_true, not_true_eq_false, not_false_eq_true, h5 b u]
    · have : b = 130 + j := by omega
      subst this
      simp (disch := omega) only [rdN, wrN, rdZ, wrZ, p_put_eq, call_some, nzN, boN, nI_1, nI_add, pk_mul, lit_4, lit_16, le_T, le_F, lt_T, lt_F, eq_T, eq_F, le_T0, le_F0, lt_F0, lt_T0, eq_T0, eq_F0, eqm_F, up_s2, up_n2, Ev_some, nz_0, nz_1, if_true, if_false, reduceIte, and_true, true_and, and_false, false_and, b2_0, b2_1, Bool.true_eq_false, Bool.false_eq_true, not_true_eq_false, not_false_eq_true]
      unfold kv
      rw [if_neg (by omega), if_neg (by omega), show 130 + j - 130 = j by omega]
theorem Kst.put {υ τ : Sg} {k w n j : Nat} (h : Kst υ τ k w n) (hj : j ≠ 27) : Kst (sg_up υ k j (τ k j)) τ k w n := by
  obtain ⟨h1, h2, h3, h4, h5⟩ := h
  refine ⟨fun x p q => ?_, fun b p => ?_, ?_, fun b p => ?_, fun b p => ?_⟩
  · rw [up_a p, h1 x p q]
  · by_cases e : b = j
    · simp (disch := omega) only [rdN, wrN, rdZ, wrZ, p_put_eq, call_some, nzN, boN, nI_1, nI_add, pk_mul, lit_4, lit_16, le_T, le_F, lt_T, lt_F, eq_T, eq_F, le_T0, le_F0, lt_F0, lt_T0, eq_T0, eq_F0, eqm_F, up_s2, up_n2, Ev_some, nz_0, nz_1, if_true, if_false, reduceIte, and_true, true_and, and_false, false_and, b2_0, b2_1, Bool.true_eq_false, Bool.false_eq_true, not_true_eq_false, not_false_eq_true, e]
    · simp (disch := omega) only [rdN, wrN, rdZ, wrZ, p_put_eq, call_some, nzN, boN, nI_1, nI_add, pk_mul, lit_4, lit_16, le_T, le_F, lt_T, lt_F, eq_T, eq_F, le_T0, le_F0, lt_F0, lt_T0, eq_T0, eq_F0, eqm_F, up_s2, up_n2, Ev_some, nz_0, nz_1, if_true, if_false, reduceIte, and_true, true_and, and_false, false_and, b2_0, b2_1, Bool.true_eq_false, Bool.false_eq_true, not_true_eq_false, not_false_eq_true, h2 b p]
  · simp (disch := omega) only [rdN, wrN, rdZ, wrZ, p_put_eq, call_some, nzN, boN, nI_1, nI_add, pk_mul, lit_4, lit_16, le_T, le_F, lt_T, lt_F, eq_T, eq_F, le_T0, le_F0, lt_F0, lt_T0, eq_T0, eq_F0, eqm_F, up_s2, up_n2, Ev_some, nz_0, nz_1, if_true, if_false, reduceIte, and_true, true_and, and_false, false_and, b2_0, b2_1, Bool.true_eq_false, Bool.false_eq_true, not_true_eq_false, not_false_eq_true, h3]
  · simp (disch := omega) only [rdN, wrN, rdZ, wrZ, p_put_eq, call_some, nzN, boN, nI_1, nI_add, pk_mul, lit_4, lit_16, le_T, le_F, lt_T, lt_F, eq_T, eq_F, le_T0, le_F0, lt_F0, lt_T0, eq_T0, eq_F0, eqm_F, up_s2, up_n2, Ev_some, nz_0, nz_1, if_true, if_false, reduceIte, and_true, true_and, and_false, false_and, b2_0, b2_1, Bool.true_eq_false, Bool.false_eq_true, not_true_eq_false, not_false_eq_true, h4 b p]
  · simp (disch := omega) only [rdN, wrN, rdZ, wrZ, p_put_eq, call_some, nzN, boN, nI_1, nI_add, pk_mul, lit_4, lit_16, le_T, le_F, lt_T, lt_F, eq_T, eq_F, le_T0, le_F0, lt_F0, lt_T0, eq_T0, eq_F0, eqm_F, up_s2, up_n2, Ev_some, nz_0, nz_1, if_true, if_false, reduceIte, and_true, true_and, and_false, false_and, b2_0, b2_1, Bool.true_eq_false, Bool.false_eq_true, not_true_eq_false, not_false_eq_true, h5 b p]
theorem Kst.t1 {υ τ : Sg} {k w n : Nat} {K : Sg → Rs} {Q : Int32 → Sg → Prop} (j l m : Nat) (hw : w ≤ 1) (hj : j < 4) (h : Kst υ τ k w n) (h26 : τ k 26 = 1) (hn : n = 130 + j) (hl : l = 11 + j) (hm : m = 130 + (j + 1)) (hk : ∀ φ, Kst φ τ k w m → Ev (K φ) Q) : Ev (p_call (f_X11_passOne k (υ k l) υ) (fun v s => p_put s k l v K)) Q := by
  subst hn hl hm
  exact h.s1 hw hj h26 (fun φ hφ => hk _ (hφ.put (j := 11 + j) (by omega)))
theorem bo1 {K : Rs} : p_bo 1 K = K := if_pos (.inr rfl)
theorem bo0 {K : Rs} : p_bo 0 K = K := if_pos (.inl rfl)
theorem y_keepAll {τ : Sg} {k w : Nat} (hw : w ≤ 1) : Ev (f_X11_passesAll k (nI w) 1 τ) (fun _ υ => Kst υ (sg_up (sg_up τ k 27 (nI (200 * w))) k 26 1) k w 134) := by
  unfold f_X11_passesAll
  rw [p_put_eq, bo1, p_put_eq, show (200 : Int32) * nI w = nI (200 * w) from pk_mul 200 w]
  generalize hτ : sg_up (sg_up τ k 27 (nI (200 * w))) k 26 1 = τ1
  have h26 : τ1 k 26 = 1 := by rw [← hτ]; simp (disch := omega) only [rdN, wrN, rdZ, wrZ, p_put_eq, call_some, nzN, boN, nI_1, nI_add, pk_mul, lit_4, lit_16, le_T, le_F, lt_T, lt_F, eq_T, eq_F, le_T0, le_F0, lt_F0, lt_T0, eq_T0, eq_F0, eqm_F, up_s2, up_n2, Ev_some, nz_0, nz_1, if_true, if_false, reduceIte, and_true, true_and, and_false, false_and, b2_0, b2_1, Bool.true_eq_false, Bool.false_eq_true, not_true_eq_false, not_false_eq_true]
  have h0 : Kst τ1 τ1 k w 0 := ⟨fun _ _ _ => rfl, fun _ _ => rfl, by rw [← hτ]; simp (disch := omega) only [rdN, wrN, rdZ, wrZ, p_put_eq, call_some, nzN, boN, nI_1, nI_add, pk_mul, lit_4, lit_16, le_T, le_F, lt_T, lt_F, eq_T, eq_F, le_T0, le_F0, lt_F0, lt_T0, eq_T0, eq_F0, eqm_F, up_s2, up_n2, Ev_some, nz_0, nz_1, if_true, if_false, reduceIte, and_true, true_and, and_false, false_and, b2_0, b2_1, Bool.true_eq_false, Bool.false_eq_true, not_true_eq_false, not_false_eq_true], fun _ _ => rfl, fun b p => absurd p (Nat.not_lt_zero _)⟩
  clear hτ
  refine Ev.call (h0.t16 0 (k + 2) 16 hw (by decide) h26 rfl rfl rfl) (fun _ t1 h1 => ?_)
  refine Ev.call (h1.t16 1 (k + 3) 32 hw (by decide) h26 rfl rfl rfl) (fun _ t2 h2 => ?_)
  refine Ev.call (h2.t16 2 (k + 4) 48 hw (by decide) h26 rfl rfl rfl) (fun _ t3 h3 => ?_)
  refine Ev.call (h3.t16 3 (k + 5) 64 hw (by decide) h26 rfl rfl rfl) (fun _ t4 h4 => ?_)
  refine Ev.call (h4.t16 4 (k + 6) 80 hw (by decide) h26 rfl rfl rfl) (fun _ t5 h5 => ?_)
  refine Ev.call (h5.t16 5 (k + 7) 96 hw (by decide) h26 rfl rfl rfl) (fun _ t6 h6 => ?_)
  refine Ev.call (h6.t16 6 (k + 8) 112 hw (by decide) h26 rfl rfl rfl) (fun _ t7 h7 => ?_)
  refine Ev.call (h7.t6 0 (k + 9) 118 hw (by decide) h26 rfl rfl rfl) (fun _ t8 h8 => ?_)
  refine Ev.call (h8.t6 1 (k + 10) 124 hw (by decide) h26 rfl rfl rfl) (fun _ t9 h9 => ?_)
  refine Ev.call (h9.t6 2 (k + 11) 130 hw (by decide) h26 rfl rfl rfl) (fun _ t10 h10 => ?_)
  refine h10.t1 0 11 131 hw (by decide) h26 rfl rfl rfl (fun t11 h11 => ?_)
  refine h11.t1 1 12 132 hw (by decide) h26 rfl rfl rfl (fun t12 h12 => ?_)
  refine h12.t1 2 13 133 hw (by decide) h26 rfl rfl rfl (fun t13 h13 => ?_)
  refine h13.t1 3 14 134 hw (by decide) h26 rfl rfl rfl (fun t14 h14 => ?_)
  rw [Ev_some]
  exact h14
/-- n numbers are brought back from w -/
def Bst (φ υ : Sg) (k w n : Nat) : Prop := (∀ a, a ≠ k → (a < k + 2 ∨ k + 11 < a) → φ a = υ a) ∧ (∀ b, b ≠ 27 → (b < 11 ∨ 14 < b) → φ k b = υ k b) ∧ φ k 27 = nI (200 * w + n) ∧ (∀ j, j < 7 → ∀ i, i < 16 → 16 * j + i < n → φ (k + 2 + j) i = υ (k + 18) (200 * w + (16 * j + i))) ∧ (∀ j, j < 3 → ∀ i, i < 6 → 112 + 6 * j + i < n → φ (k + 9 + j) i = υ (k + 18) (200 * w + (112 + 6 * j + i))) ∧ (∀ i, i < 4 → 130 + i < n → φ k (11 + i) = υ (k + 18) (200 * w + (130 + i)))
theorem rst_in {τ : Sg} {k a s cur y : Nat} (h : y < s) : rst τ k a s cur a y = τ (k + 18) (cur + y) := if_pos ⟨rfl, h⟩
theorem rst_o {τ : Sg} {k a s cur x y : Nat} (h : x ≠ a) (h2 : ¬ (x = k ∧ y = 27)) : rst τ k a s cur x y = τ x y := by
  unfold rst
  rw [if_neg (fun q => h q.1), if_neg h2]
theorem rst_27 {τ : Sg} {k a s cur : Nat} (ha : a ≠ k) : rst τ k a s cur k 27 = nI (cur + s) := by
  unfold rst
  rw [if_neg (fun q => ha q.1.symm), if_pos ⟨rfl, rfl⟩]
theorem Bst.s16 {φ υ : Sg} {k w j : Nat} (hw : w ≤ 1) (hj : j < 7) (h : Bst φ υ k w (16 * j)) (h26 : υ k 26 = 0) : Ev (f_X11_passes k (k + 2 + j) 16 φ) (fun _ ψ => Bst ψ υ k w (16 * (j + 1))) := by
  obtain ⟨h1, h2, h3, h4, h5, h6⟩ := h
  refine (e_back (cur := 200 * w + 16 * j) (by rw [h2 26 (by decide) (by decide), h26]) h3 (by decide) (by omega) (by omega)).mono (fun _ ψ e => ?_)
  subst e
  refine ⟨fun a p q => ?_, fun b p q => ?_, ?_, fun j' a i b q => ?_, fun j' a i b q => ?_, fun i a q => ?_⟩
  · funext y
    rw [rst_o (by omega) (by omega), h1 a p q]
  · rw [rst_o (by omega) (by omega), h2 b p q]
  · rw [rst_27 (by omega), Nat.add_assoc, show 16 * j + 16 = 16 * (j + 1) by omega]
  · by_cases e : j' = j
    · subst e
      rw [rst_in b, h1 (k + 18) (by omega) (by omega), Nat.add_assoc]
    · rw [rst_o (by omega) (by omega), h4 j' a i b (by omega)]
  · omega
  · omega
theorem Bst.s6 {φ υ : Sg} {k w j : Nat} (hw : w ≤ 1) (hj : j < 3) (h : Bst φ υ k w (112 + 6 * j)) (h26 : υ k 26 = 0) : Ev (f_X11_passes k (k + 9 + j) 6 φ) (fun _ ψ => Bst ψ υ k w (112 + 6 * (j + 1))) := by
  obtain ⟨h1, h2, h3, h4, h5, h6⟩ := h
  refine (e_back (cur := 200 * w + (112 + 6 * j)) (by rw [h2 26 (by decide) (by decide), h26]) h3 (by decide) (by omega) (by omega)).mono (fun _ ψ e => ?_)
  subst e
  refine ⟨fun a p q => ?_, fun b p q => ?_, ?_, fun j' a i b q => ?_, fun j' a i b q => ?_, fun i a q => ?_⟩
  · funext y
    rw [rst_o (by omega) (by omega), h1 a p q]
  · rw [rst_o (by omega) (by omega), h2 b p q]
  · rw [rst_27 (by omega), Nat.add_assoc, show 112 + 6 * j + 6 = 112 + 6 * (j + 1) by omega]
  · rw [rst_o (by omega) (by omega), h4 j' a i b (by omega)]
  · by_cases e : j' = j
    · subst e
      rw [rst_in b, h1 (k + 18) (by omega) (by omega), Nat.add_assoc]
    · rw [rst_o (by omega) (by omega), h5 j' a i b (by omega)]
  · omega
theorem Bst.t16 {φ υ : Sg} {k w n : Nat} (j a m : Nat) (hw : w ≤ 1) (hj : j < 7) (h : Bst φ υ k w n) (h26 : υ k 26 = 0) (hn : n = 16 * j) (ha : a = k + 2 + j) (hm : m = 16 * (j + 1)) : Ev (f_X11_passes k a 16 φ) (fun _ ψ => Bst ψ υ k w m) := by
  subst hn ha hm
  exact h.s16 hw hj h26
theorem Bst.t6 {φ υ : Sg} {k w n : Nat} (j a m : Nat) (hw : w ≤ 1) (hj : j < 3) (h : Bst φ υ k w n) (h26 : υ k 26 = 0) (hn : n = 112 + 6 * j) (ha : a = k + 9 + j) (hm : m = 112 + 6 * (j + 1)) : Ev (f_X11_passes k a 6 φ) (fun _ ψ => Bst ψ υ k w m) := by
  subst hn ha hm
  exact h.s6 hw hj h26
theorem Bst.s1 {φ υ : Sg} {k w j : Nat} {x : Int32} {K : Sg → Rs} {Q : Int32 → Sg → Prop} (hw : w ≤ 1) (hj : j < 4) (h : Bst φ υ k w (130 + j)) (h26 : υ k 26 = 0) (hk : ∀ ψ, Bst ψ υ k w (130 + (j + 1)) → Ev (K ψ) Q) : Ev (p_call (f_X11_passOne k x φ) (fun v s => p_put s k (11 + j) v K)) Q := by
  obtain ⟨h1, h2, h3, h4, h5, h6⟩ := h
  have e26 : φ k 26 = 0 := (h2 26 (by decide) (by decide)).trans h26
  unfold f_X11_passOne f_X11_passOne_b20 f_X11_passOne_b38
  rw [e26, if_pos rfl, h3, rdN (by omega) (by decide), if_pos rfl, p_put_eq, call_some, p_put_eq, h1 (k + 18) (by omega) (by omega)]
  refine hk _ ⟨fun a p q => ?_, fun b p q => ?_, ?_, fun j' a i b q => ?_, fun j' a i b q => ?_, fun i a q => ?_⟩
  · rw [up_a p, up_a p, h1 a p q]
  · simp (disch := omega) only [rdN, wrN, rdZ, wrZ, p_put_eq, call_some, nzN, boN, nI_1, nI_add, pk_mul, lit_4, lit_16, le_T, le_F, lt_T, lt_F, eq_T, eq_F, le_T0, le_F0, lt_F0, lt_T0, eq_T0, eq_F0, eqm_F, up_s2, up_n2, Ev_some, nz_0, nz_1, if_true, if_false, reduceIte, and_true, true_and, and_false, false_and, b2_0, b2_1, Bool.true_eq_false, Bool.false_eq_true, not_true_eq_false, not_false_eq_true, h2 b p q]
  · simp (disch := omega) only [rdN, wrN, rdZ, wrZ, p_put_eq, call_some, nzN, boN, nI_1, nI_add, pk_mul, lit_4, lit_16, le_T, le_F, lt_T, lt_F, eq_T, eq_F, le_T0, le_F0, lt_F0, lt_T0, eq_T0, eq_F0, eqm_F, up_s2, up_n2, Ev_some, nz_0, nz_1, if_true, if_false, reduceIte, and_true, true_and, and_false, false_and, b2_0, b2_1, Bool.true_eq_false, Bool.false_eq_true, not_true_eq_false, not_false_eq_true, h3]
  · simp (disch := omega) only [rdN, wrN, rdZ, wrZ, p_put_eq, call_some, nzN, boN, nI_1, nI_add, pk_mul, lit_4, lit_16, le_T, le_F, lt_T, lt_F, eq_T, eq_F, le_T0, le_F0, lt_F0, lt_T0, eq_T0, eq_F0, eqm_F, up_s2, up_n2, Ev_some, nz_0, nz_1, if_true, if_false, reduceIte, and_true, true_and, and_false, false_and, b2_0, b2_1, Bool.true_eq_false, Bool.false_eq_true, not_true_eq_false, not_false_eq_true, h4 j' a i b (by omega)]
  · simp (disch := omega) only [rdN, wrN, rdZ, wrZ, p_put_eq, call_some, nzN, boN, nI_1, nI_add, pk_mul, lit_4, lit_16, le_T, le_F, lt_T, lt_F, eq_T, eq_F, le_T0, le_F0, lt_F0, lt_T0, eq_T0, eq_F0, eqm_F, up_s2, up_n2, Ev_some, nz_0, nz_1, if_true, if_false, reduceIte, and_true, true_and, and_false, false_and, b2_0, b2_1, Bool.true_eq_false, Bool.false_eq_true, not_true_eq_false, not_false_eq_true, h5 j' a i b (by omega)]
  · by_cases e : i = j
    · subst e
      simp (disch := omega) only [rdN, wrN, rdZ, wrZ, p_put_eq, call_some, nzN, boN, nI_1, nI_add, pk_mul, lit_4, lit_16, le_T, le_F, lt_T, lt_F, eq_T, eq_F, le_T0, le_F0, lt_F0, lt_T0, eq_T0, eq_F0, eqm_F, up_s2, up_n2, Ev_some, nz_0, nz_1, if_true, if_false, reduceIte, and_true, true_and, and_false, false_and, b2_0, b2_1, Bool.true_eq_false, Bool.false_eq_true, not_true_eq_false, not_false_eq_true]
    · simp (disch := omega) only [rdN, wrN, rdZ, wrZ, p_put_eq, call_some, nzN, boN, nI_1, nI_add, pk_mul, lit_4, lit_16, le_T, le_F, lt_T, lt_F, eq_T, eq_F, le_T0, le_F0, lt_F0, lt_T0, eq_T0, eq_F0, eqm_F, up_s2, up_n2, Ev_some, nz_0, nz_1, if_true, if_false, reduceIte, and_true, true_and, and_false, false_and, b2_0, b2_1, Bool.true_eq_false, Bool.false_eq_true, not_true_eq_false, not_false_eq_true, h6 i a (by omega)]
theorem Bst.t1 {φ υ : Sg} {k w n : Nat} {x : Int32} {K : Sg → Rs} {Q : Int32 → Sg → Prop} (j l m : Nat) (hw : w ≤ 1) (hj : j < 4) (h : Bst φ υ k w n) (h26 : υ k 26 = 0) (hn : n = 130 + j) (hl : l = 11 + j) (hm : m = 130 + (j + 1)) (hk : ∀ ψ, Bst ψ υ k w m → Ev (K ψ) Q) : Ev (p_call (f_X11_passOne k x φ) (fun v s => p_put s k l v K)) Q := by
  subst hn hl hm
  exact h.s1 hw hj h26 hk
theorem y_backAll {υ : Sg} {k w : Nat} (hw : w ≤ 1) : Ev (f_X11_passesAll k (nI w) 0 υ) (fun _ φ => Bst φ (sg_up (sg_up υ k 27 (nI (200 * w))) k 26 0) k w 134) := by
  unfold f_X11_passesAll
  rw [p_put_eq, bo0, p_put_eq, show (200 : Int32) * nI w = nI (200 * w) from pk_mul 200 w]
  generalize hτ : sg_up (sg_up υ k 27 (nI (200 * w))) k 26 0 = τ1
  have h26 : τ1 k 26 = 0 := by rw [← hτ]; simp (disch := omega) only [rdN, wrN, rdZ, wrZ, p_put_eq, call_some, nzN, boN, nI_1, nI_add, pk_mul, lit_4, lit_16, le_T, le_F, lt_T, lt_F, eq_T, eq_F, le_T0, le_F0, lt_F0, lt_T0, eq_T0, eq_F0, eqm_F, up_s2, up_n2, Ev_some, nz_0, nz_1, if_true, if_false, reduceIte, and_true, true_and, and_false, false_and, b2_0, b2_1, Bool.true_eq_false, Bool.false_eq_true, not_true_eq_false, not_false_eq_true]
  have h0 : Bst τ1 τ1 k w 0 := ⟨fun _ _ _ => rfl, fun _ _ _ => rfl, by rw [← hτ]; simp (disch := omega) only [rdN, wrN, rdZ, wrZ, p_put_eq, call_some, nzN, boN, nI_1, nI_add, pk_mul, lit_4, lit_16, le_T, le_F, lt_T, lt_F, eq_T, eq_F, le_T0, le_F0, lt_F0, lt_T0, eq_T0, eq_F0, eqm_F, up_s2, up_n2, Ev_some, nz_0, nz_1, if_true, if_false, reduceIte, and_true, true_and, and_false, false_and, b2_0, b2_1, Bool.true_eq_false, Bool.false_eq_true, not_true_eq_false, not_false_eq_true], fun _ _ _ _ p => absurd p (Nat.not_lt_zero _), fun _ _ _ _ p => absurd p (Nat.not_lt_zero _), fun _ _ p => absurd p (Nat.not_lt_zero _)⟩
  clear hτ
  refine Ev.call (h0.t16 0 (k + 2) 16 hw (by decide) h26 rfl rfl rfl) (fun _ t1 h1 => ?_)
  refine Ev.call (h1.t16 1 (k + 3) 32 hw (by decide) h26 rfl rfl rfl) (fun _ t2 h2 => ?_)
  refine Ev.call (h2.t16 2 (k + 4) 48 hw (by decide) h26 rfl rfl rfl) (fun _ t3 h3 => ?_)
  refine Ev.call (h3.t16 3 (k + 5) 64 hw (by decide) h26 rfl rfl rfl) (fun _ t4 h4 => ?_)
  refine Ev.call (h4.t16 4 (k + 6) 80 hw (by decide) h26 rfl rfl rfl) (fun _ t5 h5 => ?_)
  refine Ev.call (h5.t16 5 (k + 7) 96 hw (by decide) h26 rfl rfl rfl) (fun _ t6 h6 => ?_)
  refine Ev.call (h6.t16 6 (k + 8) 112 hw (by decide) h26 rfl rfl rfl) (fun _ t7 h7 => ?_)
  refine Ev.call (h7.t6 0 (k + 9) 118 hw (by decide) h26 rfl rfl rfl) (fun _ t8 h8 => ?_)
  refine Ev.call (h8.t6 1 (k + 10) 124 hw (by decide) h26 rfl rfl rfl) (fun _ t9 h9 => ?_)
  refine Ev.call (h9.t6 2 (k + 11) 130 hw (by decide) h26 rfl rfl rfl) (fun _ t10 h10 => ?_)
  refine h10.t1 0 11 131 hw (by decide) h26 rfl rfl rfl (fun t11 h11 => ?_)
  refine h11.t1 1 12 132 hw (by decide) h26 rfl rfl rfl (fun t12 h12 => ?_)
  refine h12.t1 2 13 133 hw (by decide) h26 rfl rfl rfl (fun t13 h13 => ?_)
  refine h13.t1 3 14 134 hw (by decide) h26 rfl rfl rfl (fun t14 h14 => ?_)
  rw [Ev_some]
  exact h14
