/-! the tape: puzzle -/
/-- where the statement j begins -/
def sA (n : Nat) (B : Nat → Nat) : Nat → Nat
  | 0 => 0
  | j + 1 => (stP n B (sA n B j, false)).1
/-- k statements are good -/
def Gd (n : Nat) (B : Nat → Nat) (k : Nat) : Prop := ∀ j, j < k → stP n B (sA n B j, false) = (sA n B (j + 1), false)
section TZ
variable {n : Nat} {B : Nat → Nat}
theorem gd_le {k : Nat} (hg : Gd n B k) : ∀ j, j ≤ k → 4 * j ≤ sA n B j ∧ sA n B j ≤ n
  | 0, _ => ⟨Nat.zero_le _, Nat.zero_le _⟩
  | j + 1, h => by
    obtain ⟨a, b⟩ := gd_le hg j (by omega)
    obtain ⟨s1, s2⟩ := st_ok (hg j (by omega))
    have := (sh_no s1).1
    have h2 := stP_le (n := n) (B := B) (s := (sA n B j, false)) b
    exact ⟨by omega, h2⟩
/-- all statements obeyed: both count them, or both name the same fault -/
theorem app_all {i K : Nat} {υ0 φ0 : Sg} (hB : TB n B) (hg : Gd n B K) (hK : sA n B K = n) (hT : ∀ j, j < n → υ0 56 j = nI (B j)) (hl : υ0 55 1 = nI n) (hD : ∀ j, j < K → DA φ0 n B j (sA n B j)) (hK3 : φ0 103 23 = nI K) : ∀ (m k F G : Nat) (υ φ : Sg), k + m = K → n < F + sA n B k → m < G → AppR i υ0 φ0 υ φ → ∃ (v : Int32) (υ' φ' : Sg), f_X7_obeyAll_b7 55 17 F (nI k) (nI (sA n B k)) (nI (sA n B k)) υ = some (v, υ') ∧ AppR i υ0 φ0 υ' φ' ∧ ((v = nI K ∧ f_X11_puzzle_b86 103 G (nI k) φ = some (nI K, φ')) ∨ ∃ j, j < K ∧ v = -2000 - nI (sA n B j) ∧ f_X11_puzzle_b86 103 G (nI k) φ = p_call (f_X11_passesAll 103 1 0 φ') (fun _ s4 => p_rd s4 (103 + 14) 32 (nI j) (fun v5 => some ((-2000) - v5, s4))))
  | 0, k, F, G, υ, φ, hk, hF, hG, hR => by
    have hn := hB.1
    have : k = K := by omega
    subst this
    obtain ⟨F', rfl⟩ : ∃ F', F = F' + 1 := ⟨F - 1, by omega⟩
    obtain ⟨G', rfl⟩ : ∃ G', G = G' + 1 := ⟨G - 1, by omega⟩
    have e1 : υ 55 1 = nI n := by rw [hR.2.1 55 (by decide)]; exact hl
    have e2 : φ 103 23 = nI k := by rw [hR.2.2.2 23 (by decide)]; exact hK3
    have c0 : f_X7_obeyAll_b7 55 17 (F' + 1) (nI k) (nI (sA n B k)) (nI (sA n B k)) υ = some (nI k, υ) := by
      rw [f_X7_obeyAll_b7, e1, hK, if_pos (nI_le (Nat.le_refl _) (by omega))]
    have hk16 : k ≤ 16 := by have := (gd_le hg k (Nat.le_refl _)).1; omega
    refine ⟨nI k, υ, φ, c0, hR, .inl ⟨rfl, ?_⟩⟩
    rw [f_X11_puzzle_b86, e2, if_pos (nI_le (Nat.le_refl _) (by omega))]
  | m + 1, k, F, G, υ, φ, hk, hF, hG, hR => by
    have hn := hB.1
    obtain ⟨G', rfl⟩ : ∃ G', G = G' + 1 := ⟨G - 1, by omega⟩
    have hgk := hg k (by omega)
    obtain ⟨sh, hend⟩ := st_ok hgk
    obtain ⟨l4, hno⟩ := sh_no sh
    have lek := gd_le hg (k + 1) (by omega)
    have hk16 : k < 16 := by omega
    have e1 : ∀ ψ : Sg, AppR i υ0 φ0 υ ψ → υ 55 1 = nI n := fun ψ hψ => by rw [hψ.2.1 55 (by decide)]; exact hl
    have hT' : ∀ j, j < n → υ 56 j = nI (B j) := fun j hj => by rw [hR.2.1 56 (by decide)]; exact hT j hj
    have e2 : φ 103 23 = nI K := by rw [hR.2.2.2 23 (by decide)]; exact hK3
    -- up to the end of the statement
    have scan : ∀ (d j f : Nat), j + d = sA n B (k + 1) - 1 → sA n B k ≤ j → f_X7_obeyAll_b7 55 17 (f + d) (nI k) (nI (sA n B k)) (nI j) υ = f_X7_obeyAll_b7 55 17 f (nI k) (nI (sA n B k)) (nI (sA n B (k + 1) - 1)) υ := by
      intro d
      induction d with
      | zero => intro j f h1 h2; rw [show sA n B (k + 1) - 1 = j by omega]; rfl
      | succ d ih =>
        intro j f h1 h2
        have hjn : j < n := by omega
        have h59 : ¬ nI (B j) = (59 : Int32) := fun e => by
          have e' : B j = 59 := (nI_eq (b := 59) (by have := hB.2 j hjn; omega) (by decide)).mp e
          exact hno j h2 (by omega) (by rw [nb_in hjn]; exact e')
        rw [show f + (d + 1) = (f + d) + 1 by omega, f_X7_obeyAll_b7, e1 φ hR, if_neg (nI_ge hjn (by omega)), rdN (by omega) (by decide), show υ (55 + 1) j = nI (B j) from hT' j hjn, if_neg h59, f_X7_obeyAll_b53, nI_1]
        exact ih (j + 1) f (by omega) (by omega)
    obtain ⟨F2, hF2⟩ : ∃ F2, F = (F2 + 1) + (sA n B (k + 1) - 1 - sA n B k) := ⟨F - 1 - (sA n B (k + 1) - 1 - sA n B k), by omega⟩
    have eC : f_X7_obeyAll_b7 55 17 F (nI k) (nI (sA n B k)) (nI (sA n B k)) υ = f_X7_obeyAll_b7 55 17 (F2 + 1) (nI k) (nI (sA n B k)) (nI (sA n B (k + 1) - 1)) υ := by
      rw [hF2]
      exact scan _ _ _ (by omega) (Nat.le_refl _)
    have hel : sA n B (k + 1) - 1 < n := by omega
    have DAk : DA φ n B k (sA n B k) := by
      have := hD k (by omega)
      unfold DA at this ⊢
      rw [hR.2.2.1 116 (by decide) (by decide), hR.2.2.1 117 (by decide) (by decide), hR.2.2.1 118 (by decide) (by decide), hR.2.2.1 119 (by decide) (by decide), hR.2.2.1 120 (by decide) (by decide)]
      exact this
    obtain ⟨ok, υ1, φ1, o1, o2, o3⟩ := app_step hB hR hT' sh hend (by omega) DAk
    have hB59 : υ (55 + 1) (sA n B (k + 1) - 1) = 59 := by
      rw [show υ (55 + 1) (sA n B (k + 1) - 1) = nI (B (sA n B (k + 1) - 1)) from hT' _ hel]
      rw [nb_in hel] at hend
      rw [hend]; rfl
    have eR : f_X11_puzzle_b86 103 (G' + 1) (nI k) φ = (if b2 ok = 0 then (p_call (f_X11_passesAll 103 1 0 φ1) (fun _ s4 => p_rd s4 (103 + 14) 32 (nI k) (fun v5 => some ((-2000) - v5, s4)))) else (f_X11_puzzle_b86 103 G' (nI (k + 1)) φ1)) := by
      rw [f_X11_puzzle_b86, e2, if_neg (nI_ge (by omega) (by have := (gd_le hg K (Nat.le_refl _)).1; omega)), o2, call_some, nI_1]
    have eC2 : f_X7_obeyAll_b7 55 17 (F2 + 1) (nI k) (nI (sA n B k)) (nI (sA n B (k + 1) - 1)) υ = (if b2 ok = 0 then some ((-2000) - nI (sA n B k), υ1) else f_X7_obeyAll_b7 55 17 F2 (nI (k + 1)) (nI (sA n B (k + 1))) (nI (sA n B (k + 1))) υ1) := by
      rw [f_X7_obeyAll_b7, e1 φ hR, if_neg (nI_ge hel (by omega)), rdN (by omega) (by decide), hB59, if_pos rfl, o1, call_some, f_X7_obeyAll_b53, nI_1, nI_1, show sA n B (k + 1) - 1 + 1 = sA n B (k + 1) by omega]
    cases ok with
    | false =>
      rw [if_pos (show b2 false = 0 from rfl)] at eR eC2
      exact ⟨_, υ1, φ1, eC.trans eC2, o3, .inr ⟨k, by omega, rfl, eR⟩⟩
    | true =>
      rw [if_neg (show ¬ b2 true = 0 by decide)] at eR eC2
      obtain ⟨v, υ', φ', r2, r3, r4⟩ := app_all hB hg hK hT hl hD hK3 m (k + 1) F2 G' υ1 φ1 (by omega) (by omega) (by omega) o3
      refine ⟨v, υ', φ', (eC.trans eC2).trans r2, r3, ?_⟩
      rw [eR]
      exact r4
end TZ
