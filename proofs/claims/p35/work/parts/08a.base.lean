/-! the second half of the pure part: equations by rewriting -/
theorem Ev.eq {f : Rs} {v : Int32} {τ : Sg} (h : Ev f (fun r υ => r = v ∧ υ = τ)) : f = some (v, τ) := by
  obtain ⟨r, υ, e, rfl, rfl⟩ := h
  exact e
theorem Ev.of {f : Rs} {v : Int32} {τ : Sg} {Q : Int32 → Sg → Prop} (h : f = some (v, τ)) (q : Q v τ) : Ev f Q := ⟨v, τ, h, q⟩
theorem Ev_some {r : Int32} {τ : Sg} {Q : Int32 → Sg → Prop} : Ev (some (r, τ)) Q = Q r τ := propext ⟨fun ⟨_, _, e, q⟩ => by cases e; exact q, fun q => ⟨_, _, rfl, q⟩⟩
def b2 (b : Bool) : Int32 := if b = true then 1 else 0
theorem b2_0 {b : Bool} : (b2 b = 0) = (b = false) := by cases b <;> decide
theorem b2_1 {b : Bool} : (b2 b = 1) = (b = true) := by cases b <;> decide
theorem b2_T : b2 true = 1 := rfl
theorem b2_F : b2 false = 0 := rfl
theorem rdN {σ : Sg} {k n i : Nat} {K : Int32 → Rs} (h : i < n) (hn : n < 2000) : p_rd σ k n (nI i) K = K (σ k i) := by
  unfold p_rd
  rw [if_pos (ix_nI h (by omega)), nI_clamp (by omega)]
theorem wrN {σ : Sg} {k n i : Nat} {v : Int32} {K : Sg → Rs} (h : i < n) (hn : n < 2000) : p_wr σ k n (nI i) v K = K (sg_up σ k i v) := by
  unfold p_wr
  rw [if_pos (ix_nI h (by omega)), nI_clamp (by omega)]
theorem rdZ {σ : Sg} {k n : Nat} {K : Int32 → Rs} (h : 0 < n) (hn : n < 2000) : p_rd σ k n 0 K = K (σ k 0) := rdN (i := 0) h hn
theorem wrZ {σ : Sg} {k n : Nat} {v : Int32} {K : Sg → Rs} (h : 0 < n) (hn : n < 2000) : p_wr σ k n 0 v K = K (sg_up σ k 0 v) := wrN (i := 0) h hn
theorem p_put_eq {σ : Sg} {k j : Nat} {v : Int32} {K : Sg → Rs} : p_put σ k j v K = K (sg_up σ k j v) := rfl
theorem call_some {r : Int32} {s : Sg} {K : Int32 → Sg → Rs} : p_call (some (r, s)) K = K r s := rfl
theorem nzN {i : Nat} {K : Rs} (h : 0 < i) (h2 : i < 2 ^ 31) : p_nz (nI i) K = K := if_neg (nI_ne0 h h2)
theorem boN {K : Rs} {b : Bool} : p_bo (b2 b) K = K := if_pos (by cases b <;> decide)
theorem lit_4 : (4 : Int32) = nI 4 := rfl
theorem lit_16 : (16 : Int32) = nI 16 := rfl
theorem L0 : (0 : Int32) = nI 0 := rfl
theorem L1 : (1 : Int32) = nI 1 := rfl
theorem L2 : (2 : Int32) = nI 2 := rfl
theorem L3 : (3 : Int32) = nI 3 := rfl
theorem L5 : (5 : Int32) = nI 5 := rfl
theorem L6 : (6 : Int32) = nI 6 := rfl
theorem L7 : (7 : Int32) = nI 7 := rfl
theorem L8 : (8 : Int32) = nI 8 := rfl
theorem L9 : (9 : Int32) = nI 9 := rfl
theorem L10 : (10 : Int32) = nI 10 := rfl
theorem L64 : (64 : Int32) = nI 64 := rfl
theorem le_T {a b : Nat} (h : a ≤ b) (hb : b < 2 ^ 31) : (nI a ≤ nI b) = True := eq_true (nI_le h hb)
theorem le_F {a b : Nat} (h : b < a) (hb : a < 2 ^ 31) : (nI a ≤ nI b) = False := eq_false (nI_ge h hb)
theorem lt_T {a b : Nat} (h : a < b) (hb : b < 2 ^ 31) : (nI a < nI b) = True := eq_true (nI_lt h hb)
theorem lt_F {a b : Nat} (h : b ≤ a) (hb : a < 2 ^ 31) : (nI a < nI b) = False := eq_false (nI_nlt h hb)
theorem eq_T {a b : Nat} (h : a = b) : (nI a = nI b) = True := eq_true (by rw [h])
theorem eq_F {a b : Nat} (h : ¬ a = b) (ha : a < 2 ^ 31) (hb : b < 2 ^ 31) : (nI a = nI b) = False := eq_false (fun e => h ((nI_eq ha hb).mp e))
theorem le_T0 {a : Nat} (h : a = 0) : (nI a ≤ 0) = True := by subst h; exact eq_true (by decide)
theorem le_F0 {a : Nat} (h : 0 < a) (ha : a < 2 ^ 31) : (nI a ≤ 0) = False := eq_false (nI_nle h ha)
theorem lt_F0 {a : Nat} (ha : a < 2 ^ 31) : (nI a < 0) = False := eq_false (nI_pos ha)
theorem lt_T0 {a : Nat} (h : 0 < a) (ha : a < 2 ^ 31) : (0 < nI a) = True := eq_true (Int32.not_le.mp (nI_nle h ha))
theorem eq_T0 {a : Nat} (h : a = 0) : (nI a = 0) = True := by subst h; exact eq_true rfl
theorem eq_F0 {a : Nat} (h : 0 < a) (ha : a < 2 ^ 31) : (nI a = 0) = False := eq_false (nI_ne0 h ha)
theorem q_1 {a : Nat} (ha : a < 2 ^ 31) : (nI a = 1) = (a = 1) := propext (nI_eq (b := 1) ha (by decide))
theorem q_2 {a : Nat} (ha : a < 2 ^ 31) : (nI a = 2) = (a = 2) := propext (nI_eq (b := 2) ha (by decide))
theorem q_3 {a : Nat} (ha : a < 2 ^ 31) : (nI a = 3) = (a = 3) := propext (nI_eq (b := 3) ha (by decide))
theorem eqm_F {a : Nat} (ha : a < 2 ^ 31) : (nI a = -1) = False := eq_false (fun e => by
  have := nI_pos' ha
  rw [e] at this
  exact absurd this (by decide))
theorem nI_nm1 {p : Nat} (h : p < 2 ^ 31) : ¬ nI p = -1 := fun e => by
  have := eqm_F h
  rw [e] at this
  simp at this
theorem up_s2 {σ : Sg} {k i a b : Nat} {v : Int32} (h : a = k ∧ b = i) : sg_up σ k i v a b = v := if_pos h
theorem up_n2 {σ : Sg} {k i a b : Nat} {v : Int32} (h : ¬ (a = k ∧ b = i)) : sg_up σ k i v a b = σ a b := if_neg h
theorem up_a {σ : Sg} {k i a : Nat} {v : Int32} (h : ¬ a = k) : sg_up σ k i v a = σ a := funext fun b => if_neg (fun q => h q.1)
theorem nz_0 : nz 0 = 0 := by decide
theorem nz_1 : nz 1 = 1 := by decide
theorem nz_b {b : Bool} : nz (b2 b) = b2 b := by cases b <;> decide
theorem nI_z : nI 0 = 0 := rfl
/-- a loop that goes up to m: a step each, or an end -/
theorem lp_ev {A : Type} {L : Nat → Nat → A → Rs} {m : Nat} {I : Nat → A → Prop} {Q : Int32 → Sg → Prop} (he : ∀ n a, I m a → Ev (L (n + 1) m a) Q) (hs : ∀ n i a, i < m → I i a → (∀ a', I (i + 1) a' → Ev (L n (i + 1) a') Q) → Ev (L (n + 1) i a) Q) : ∀ (n i : Nat) (a : A), i ≤ m → m - i < n → I i a → Ev (L n i a) Q
  | 0, _, _, _, h, _ => absurd h (Nat.not_lt_zero _)
  | n + 1, i, a, hi, h, hI => by
    rcases Nat.lt_or_ge i m with q | q
    · exact hs n i a q hI (fun a' h' => lp_ev he hs n (i + 1) a' (by omega) (by omega) h')
    · have : i = m := by omega
      subst this
      exact he n a hI
/-- the sum of g over n places from i on -/
def sm (g : Nat → Int32) : Nat → Nat → Int32
  | _, 0 => 0
  | i, n + 1 => g i + sm g (i + 1) n
/-- the first of n places from i on with p -/
def ff (p : Nat → Bool) : Nat → Nat → Option Nat
  | _, 0 => none
  | i, n + 1 => if p i = true then some i else ff p (i + 1) n
theorem sm_congr {g h : Nat → Int32} : ∀ (n i : Nat), (∀ j, i ≤ j → j < i + n → g j = h j) → sm g i n = sm h i n
  | 0, _, _ => rfl
  | n + 1, i, e => by
    unfold sm
    rw [e i (by omega) (by omega), sm_congr n (i + 1) (fun j a b => e j (by omega) (by omega))]
theorem ff_congr {p q : Nat → Bool} : ∀ (n i : Nat), (∀ j, i ≤ j → j < i + n → p j = q j) → ff p i n = ff q i n
  | 0, _, _ => rfl
  | n + 1, i, e => by
    unfold ff
    rw [e i (by omega) (by omega), ff_congr n (i + 1) (fun j a b => e j (by omega) (by omega))]
theorem ff_some {p : Nat → Bool} : ∀ (n i : Nat) {j : Nat}, ff p i n = some j → i ≤ j ∧ j < i + n ∧ p j = true
  | 0, _, _, h => by cases h
  | n + 1, i, j, h => by
    unfold ff at h
    split at h
    · next hp => cases h; exact ⟨Nat.le_refl _, by omega, hp⟩
    · have := ff_some n (i + 1) h
      exact ⟨by omega, by omega, this.2.2⟩
theorem ff_none {p : Nat → Bool} : ∀ (n i : Nat), ff p i n = none → ∀ j, i ≤ j → j < i + n → p j = false
  | 0, i, _, j, a, b => by omega
  | n + 1, i, h, j, a, b => by
    unfold ff at h
    split at h
    · cases h
    · next hp =>
      rcases Nat.lt_or_ge i j with q | q
      · exact ff_none n (i + 1) h j (by omega) (by omega)
      · rw [show j = i by omega]; simpa using hp
theorem lp_sm {L : Nat → Nat → Int32 → Rs} {m : Nat} {g : Nat → Int32} {E : Int32 → Rs} (he : ∀ n a, L (n + 1) m a = E a) (hs : ∀ n i a, i < m → L (n + 1) i a = L n (i + 1) (a + g i)) : ∀ (n i : Nat) (a : Int32), i ≤ m → m - i < n → L n i a = E (a + sm g i (m - i))
  | 0, _, _, _, h => absurd h (Nat.not_lt_zero _)
  | n + 1, i, a, hi, h => by
    rcases Nat.lt_or_ge i m with q | q
    · rw [hs n i a q, lp_sm he hs n (i + 1) _ (by omega) (by omega), show m - i = (m - (i + 1)) + 1 by omega, sm, Int32.add_assoc]
    · have : i = m := by omega
      subst this
      rw [he, Nat.sub_self, sm, Int32.add_zero]
theorem lp_ff {L : Nat → Nat → Rs} {m : Nat} {p : Nat → Bool} {E : Rs} {F : Nat → Rs} (he : ∀ n, L (n + 1) m = E) (hs : ∀ n i, i < m → L (n + 1) i = if p i = true then F i else L n (i + 1)) : ∀ (n i : Nat), i ≤ m → m - i < n → L n i = (match ff p i (m - i) with
    | none => E
    | some j => F j)
  | 0, _, _, h => absurd h (Nat.not_lt_zero _)
  | n + 1, i, hi, h => by
    rcases Nat.lt_or_ge i m with q | q
    · rw [hs n i q, lp_ff he hs n (i + 1) (by omega) (by omega), show m - i = (m - (i + 1)) + 1 by omega]
      show _ = (match (if p i = true then some i else ff p (i + 1) (m - (i + 1))) with
        | none => E
        | some j => F j)
      by_cases hp : p i = true
      · rw [if_pos hp, if_pos hp]
      · rw [if_neg hp, if_neg hp]
    · have : i = m := by omega
      subst this
      rw [he, Nat.sub_self]
      rfl
theorem fu_lt {m i : Nat} (h : m < 1000000) : m - i < fu := by unfold fu; omega
