/-! the work: table, line -/
section WT
variable {i r c u : Nat} {σ τ : Sg}
theorem ordL_cg {pc pc' : Nat → Int32} (h : ∀ q, q < r * c → pc' q = pc q) : ordL u r c pc' = ordL u r c pc := by
  have e : ∀ pt q, q < r * c → ordR u r c pt pc' q = ordR u r c pt pc q := fun pt q hq => by
    unfold ordR flR
    rw [h q hq]
  unfold ordL
  rw [filt_cg (e 0), filt_cg (e 1)]
theorem Bg.cg {υ φ : Sg} (hrc : r * c ≤ 16) (h : Bg υ τ r c u (ordL u r c (τ 108))) (e : EqA (gM φ) (gM τ)) : Bg υ φ r c u (ordL u r c (φ 108)) := by
  obtain ⟨a, b, d, f, g⟩ := h
  have e8 : ordL u r c (φ 108) = ordL u r c (τ 108) := ordL_cg (fun q hq => e.1 3 (by decide) q (by omega))
  refine ⟨a.cg (fun q hq => ⟨e.1 0 (by decide) q hq, e.1 1 (by decide) q hq⟩), fun p hp => ?_, fun w hw => ?_, f, by rw [e8]; exact g⟩
  · rw [b p hp]; exact (e.1 2 (by decide) p (by omega)).symm
  · obtain ⟨x, y⟩ := d w hw
    exact ⟨x.trans (e.2.1 7 (by decide) (by decide) w hw).symm, y.trans (e.2.1 8 (by decide) (by decide) w hw).symm⟩
theorem jm3 : ∀ n, n < 7 → jmax 0 (nI n - 3) = nI (n - 3) := by decide +kernel
theorem jm3' : ∀ n, n < 7 → (nI n ≤ 3) = (n ≤ 3) ∧ (3 < n → nI n - 3 = nI (n - 3)) := by decide +kernel
theorem w_table {n : Nat} (h : Inv i σ τ) (hu : u < 5) (hn1 : 1 ≤ n) (hn6 : n ≤ 6) (hn : nI n ≤ τ 103 13) : ∃ v σ' τ', f_X9_together 72 1 (nI u) (nI n) σ = some (v, σ') ∧ f_X11_tableOf 103 (nI u) (nI n) τ = some (v, τ') ∧ Xs σ σ' ∧ Ms τ τ' := by
  obtain ⟨⟨r, c, g1, g2, g3⟩, -⟩ := id h
  have hrc := g1.rc
  obtain ⟨N, m6, e1, e2, e3⟩ := people g1 g2
  have hnN : n ≤ N := by rw [e1] at hn; exact (nI_leI (by omega) (by omega)).mp hn
  obtain ⟨x, υ0, k1, f1, B0⟩ := x_begin g1 g2 hu
  have lenL : ∀ pc : Nat → Int32, (ordL u r c pc).length ≤ r * c := fun _ => ordL_le
  have step : ∀ (m j f g : Nat) (mx : Int32) (υ φ : Sg), j + m = n → m < f → m < g → (∀ a, a < 72 ∨ 90 < a → υ a = σ a) → Bg υ τ r c u (ordL u r c (τ 108)) → Ms τ φ → R2 (f_X9_together_b12 72 1 f (nI n) mx (nI j) υ) (f_X11_tableOf_b5 103 g (nI u) (nI n) mx (nI j) φ) (fun υ' φ' => Xs σ υ' ∧ Ms τ φ') := by
    intro m
    induction m with
    | zero =>
      intro j f g mx υ φ hj hf hg hX hB hM
      obtain ⟨f', rfl⟩ : ∃ f', f = f' + 1 := ⟨f - 1, by omega⟩
      obtain ⟨g', rfl⟩ : ∃ g', g = g' + 1 := ⟨g - 1, by omega⟩
      have : j = n := by omega
      subst this
      have G1 := g1.cg hM.2.2.2
      have G2 := (g2.st hX).cg hM.2.2.2
      have Bφ := hB.cg hrc hM.2.2.2
      rw [f_X9_together_b12, f_X11_tableOf_b5, if_pos (nI_le (Nat.le_refl _) (by omega)), if_pos (nI_le (Nat.le_refl _) (by omega)), show f_X9_sortingCost 72 (1 + 6) υ = _ from x_sorting G1 G2 hu Bφ, call_some, jm3 _ (by omega)]
      unfold f_X11_tableOf_b62
      rw [y_sortsFor G1.sz hu, call_some, call_some]
      obtain ⟨t1, t2⟩ := jm3' j (by omega)
      refine ⟨_, υ, φ, rfl, ?_, Xs.w hX, hM⟩
      by_cases z : j ≤ 3
      · rw [if_pos (cast t1.symm z), show j - 3 = 0 by omega, nI_z, Int32.mul_zero]
      · rw [if_neg (fun w => z (cast t1 w)), t2 (by omega), Int32.mul_comm (nI (j - 3))]
    | succ m ih =>
      intro j f g mx υ φ hj hf hg hX hB hM
      obtain ⟨f', rfl⟩ : ∃ f', f = f' + 1 := ⟨f - 1, by omega⟩
      obtain ⟨g', rfl⟩ : ∃ g', g = g' + 1 := ⟨g - 1, by omega⟩
      have G1 := g1.cg hM.2.2.2
      have G2 := (g2.st hX).cg hM.2.2.2
      have Bφ := hB.cg hrc hM.2.2.2
      have e12 : φ 112 j = τ 112 j := hM.2.2.2.2.1 7 (by decide) (by decide) j (by omega)
      have l1 := lenL (φ 108)
      obtain ⟨v, υ', s1, s2, s3, v', ψ, s4, s5, s6⟩ := w_share (w := j) (st := n) (fr := j) (M := 16) (e := (ordL u r c (φ 108)).length) G1 G2 hu (by omega) (by rw [e12]; exact (e3 j (by omega)).1) hn1 (by omega) (by omega) (by decide) Bφ (by omega)
      rw [f_X9_together_b12, f_X11_tableOf_b5, if_neg (nI_ge (by omega) (by omega)), if_neg (nI_ge (by omega) (by omega)), Bφ.2.2.2.2.1, s1, call_some, show f_X11_doneBy 103 (nI u) (nI j) 16 (nI n) (nI j) φ = _ from s4, call_some, s5]
      unfold f_X11_tableOf_b37
      rw [nI_1]
      have hB' : Bg υ' τ r c u (ordL u r c (τ 108)) := s3.cg hrc hM.2.2.2.symm
      have hX' : ∀ a, a < 72 ∨ 90 < a → υ' a = σ a := fun a ha => (s2 a ha).trans (hX a ha)
      by_cases hv : v ≤ mx
      · rw [if_pos hv, show jmax mx v = mx from if_neg (Int32.not_lt.mpr hv)]
        exact ih (j + 1) f' g' mx υ' ψ (by omega) (by omega) (by omega) hX' hB' (hM.trans s6)
      · rw [if_neg hv, show jmax mx v = v from if_pos (Int32.not_le.mp hv)]
        exact ih (j + 1) f' g' v υ' ψ (by omega) (by omega) (by omega) hX' hB' (hM.trans s6)
  obtain ⟨v, υ', φ', s1, s2, s3, s4⟩ := step n 0 fu fu 0 υ0 τ (by omega) (by unfold fu; omega) (by unfold fu; omega) f1 B0 Ms.refl
  refine ⟨v, υ', φ', ?_, s2, s3, s4⟩
  unfold f_X9_together
  rw [k1, call_some]
  exact s1
theorem r_table {x y : Int32} (h : Inv i σ τ) : Rl i (f_X10_table 0 x y σ) (f_X11_table 103 x y τ) := by
  obtain ⟨⟨r, c, g1, g2, g3⟩, -⟩ := id h
  obtain ⟨N, m6, e1, e2, e3⟩ := people g1 g2
  have N2 : Rl i (p_call (f_X10_refuse 0 (-2) σ) (fun v s => some (v, s))) (p_call (f_X11_no 103 (-2) τ) (fun v s => some (v, s))) := r_no h (by decide) n2
  have N4 : Rl i (p_call (f_X10_refuse 0 (-4) σ) (fun v s => some (v, s))) (p_call (f_X11_no 103 (-4) τ) (fun v s => some (v, s))) := r_no h (by decide) n4
  have N6 : Rl i (p_call (f_X10_refuse 0 (-6) σ) (fun v s => some (v, s))) (p_call (f_X11_no 103 (-6) τ) (fun v s => some (v, s))) := r_no h (by decide) n6
  unfold f_X10_table f_X11_table
  rw [v_rule, call_some, w_isRule, call_some]
  cases hx : inB 5 x with
  | false => rw [if_pos (by decide), if_pos (by decide)]; exact N2
  | true =>
    obtain ⟨u, hu, rfl⟩ := inB_of (by decide) hx
    rw [if_neg (show ¬ b2 true = 0 by decide), if_neg (show ¬ b2 true = 0 by decide), y_bound, call_some, show σ (0 + 1 + 12) 0 = nI N from e2, e1]
    by_cases y1 : 1 ≤ y
    · rw [if_pos y1, if_pos y1]
      by_cases y2 : y ≤ nI N
      · rw [if_pos y2, if_pos y2, if_pos rfl]
        have hy : inB (N + 1) y = true := by
          unfold inB
          rw [decide_eq_true (Int32.le_trans (by decide) y1), decide_eq_true (cast (le_lt N (by omega)) y2)]
          rfl
        obtain ⟨n, hn, rfl⟩ := inB_of (by omega) hy
        have hn1 : 1 ≤ n := (nI_leI (a := 1) (by decide) (by omega)).mp y1
        obtain ⟨v, σ', τ', k1, k2, k3, k4⟩ := w_table (n := n) h hu hn1 (by omega) (by rw [e1]; exact y2)
        rw [show f_X9_together (0 + 72) (0 + 1) (nI u) (nI n) σ = _ from k1, call_some, k2, call_some]
        exact Rl.of rfl rfl (h.sc k3 k4)
      · rw [if_neg y2, if_neg y2, if_neg (show ¬ (-6 : Int32) = 0 by decide)]
        exact N6
    · rw [if_neg y1, if_neg y1, if_neg (show ¬ (-4 : Int32) = 0 by decide)]
      exact N4
theorem w_sameT {n : Nat} (h : Inv i σ τ) (hu : u < 5) (hn1 : 1 ≤ n) (hn6 : n ≤ 6) (hn : nI n ≤ τ 103 13) : ∃ v, ∀ σ' τ', Xs σ σ' → Ms τ τ' → (∃ σ'', f_X9_together 72 1 (nI u) (nI n) σ' = some (v, σ'') ∧ Xs σ σ'') ∧ ∃ τ'', f_X11_tableOf 103 (nI u) (nI n) τ' = some (v, τ'') ∧ Ms τ τ'' := by
  have hc : ∀ τ', Ms τ τ' → nI n ≤ τ' 103 13 := fun τ' hM => by rw [show τ' 103 13 = τ 103 13 from hM.2.2.2.2.2 2 (by decide)]; exact hn
  obtain ⟨v, s0, t0, a1, a2, a3, a4⟩ := w_table (n := n) h hu hn1 hn6 hn
  refine ⟨v, fun σ' τ' hX hM => ⟨?_, ?_⟩⟩
  · obtain ⟨v', s1, t1, b1, b2, b3, b4⟩ := w_table (n := n) (h.sc hX Ms.refl) hu hn1 hn6 hn
    rw [a2] at b2
    cases b2
    exact ⟨s1, b1, hX.trans b3⟩
  · obtain ⟨v', s1, t1, b1, b2, b3, b4⟩ := w_table (n := n) (h.sc Xs.refl hM) hu hn1 hn6 (hc τ' hM)
    rw [a1] at b1
    cases b1
    exact ⟨t1, b2, hM.trans b4⟩
theorem r_line {x : Int32} (h : Inv i σ τ) : Rl i (f_X10_line 0 x σ) (f_X11_line 103 x τ) := by
  obtain ⟨⟨r, c, g1, g2, g3⟩, -⟩ := id h
  obtain ⟨N, m6, e1, e2, e3⟩ := people g1 g2
  unfold f_X10_line f_X11_line
  rw [v_rule, call_some, w_isRule, call_some]
  cases hx : inB 5 x with
  | false => rw [if_pos (by decide), if_pos (by decide)]; exact r_no h (by decide) n2
  | true =>
    obtain ⟨u, hu, rfl⟩ := inB_of (by decide) hx
    rw [if_neg (show ¬ b2 true = 0 by decide), if_neg (show ¬ b2 true = 0 by decide), show σ (0 + 1 + 12) 0 = nI N from e2, e1]
    rcases Nat.eq_zero_or_pos N with hN | hN
    · rw [hN, if_pos (show nI 0 = 0 from rfl), if_pos (show nI 0 = 0 from rfl)]
      exact Rl.of rfl rfl h
    · rw [if_neg (nI_ne0 hN (by omega)), if_neg (nI_ne0 hN (by omega))]
      have hV : ∀ n, ∃ v, 1 ≤ n ∧ n ≤ N → ∀ σ' τ', Xs σ σ' → Ms τ τ' → (∃ σ'', f_X9_together 72 1 (nI u) (nI n) σ' = some (v, σ'') ∧ Xs σ σ'') ∧ ∃ τ'', f_X11_tableOf 103 (nI u) (nI n) τ' = some (v, τ'') ∧ Ms τ τ'' := fun n => by
        by_cases hn : 1 ≤ n ∧ n ≤ N
        · obtain ⟨v, hv⟩ := w_sameT (n := n) h hu hn.1 (by omega) (by rw [e1]; exact nI_le hn.2 (by omega))
          exact ⟨v, fun _ => hv⟩
        · exact ⟨0, fun n' => absurd n' hn⟩
      obtain ⟨V, hV⟩ := Classical.axiomOfChoice hV
      obtain ⟨σ1, k1, k2⟩ := (hV 1 ⟨by decide, hN⟩ σ τ Xs.refl Ms.refl).1
      rw [show f_X9_together (0 + 72) (0 + 1) (nI u) 1 σ = _ from k1, call_some]
      have step : ∀ (m j f g b : Nat) (υ φ : Sg), j + m = N + 1 → 2 ≤ j → (1 ≤ b ∧ b ≤ N) → m < f → m < g → Xs σ υ → Ms τ φ → R2 (f_X10_line_b50 0 f (nI u) (nI b) (V b) (nI j) υ) (f_X11_line_b30 103 g (nI u) (nI b) (nI j) φ) (fun υ' φ' => Xs σ υ' ∧ Ms τ φ') := by
        intro m
        induction m with
        | zero =>
          intro j f g b υ φ hj hj2 hb hf hg hX hM
          obtain ⟨f', rfl⟩ : ∃ f', f = f' + 1 := ⟨f - 1, by omega⟩
          obtain ⟨g', rfl⟩ : ∃ g', g = g' + 1 := ⟨g - 1, by omega⟩
          have p1 : υ (0 + 1 + 12) 0 = nI N := by rw [hX (0 + 1 + 12) (by decide) (by decide) (by decide) (by decide)]; exact e2
          have p2 : φ 103 13 = nI N := by rw [show φ 103 13 = τ 103 13 from hM.2.2.2.2.2 2 (by decide)]; exact e1
          rw [f_X10_line_b50, f_X11_line_b30, p1, p2, if_pos (nI_lt (by omega) (by omega)), if_pos (nI_lt (by omega) (by omega))]
          exact ⟨_, _, _, rfl, rfl, hX, hM⟩
        | succ m ih =>
          intro j f g b υ φ hj hj2 hb hf hg hX hM
          obtain ⟨f', rfl⟩ : ∃ f', f = f' + 1 := ⟨f - 1, by omega⟩
          obtain ⟨g', rfl⟩ : ∃ g', g = g' + 1 := ⟨g - 1, by omega⟩
          have p1 : υ (0 + 1 + 12) 0 = nI N := by rw [hX (0 + 1 + 12) (by decide) (by decide) (by decide) (by decide)]; exact e2
          have p2 : φ 103 13 = nI N := by rw [show φ 103 13 = τ 103 13 from hM.2.2.2.2.2 2 (by decide)]; exact e1
          obtain ⟨υ1, a1, a2⟩ := (hV j ⟨by omega, by omega⟩ υ φ hX hM).1
          obtain ⟨φ1, b1, b2⟩ := (hV j ⟨by omega, by omega⟩ υ φ hX hM).2
          obtain ⟨φ2, c1, c2⟩ := (hV b hb υ φ1 hX b2).2
          rw [f_X10_line_b50, f_X11_line_b30, p1, p2, if_neg (nI_nlt (by omega) (by omega)), if_neg (nI_nlt (by omega) (by omega)), show f_X9_together (0 + 72) (0 + 1) (nI u) (nI j) υ = _ from a1, call_some, b1, call_some, c1, call_some]
          unfold f_X10_line_b93 f_X11_line_b58
          rw [nI_1]
          by_cases hv : V b ≤ V j
          · rw [if_pos hv, if_pos hv]
            exact ih (j + 1) f' g' b υ1 φ2 (by omega) (by omega) hb (by omega) (by omega) a2 c2
          · rw [if_neg hv, if_neg hv]
            exact ih (j + 1) f' g' j υ1 φ2 (by omega) (by omega) ⟨by omega, by omega⟩ (by omega) (by omega) a2 c2
      obtain ⟨v, υ', φ', s1, s2, s3, s4⟩ := step (N - 1) 2 fu fu 1 σ1 τ (by omega) (by decide) ⟨by decide, hN⟩ (by unfold fu; omega) (by unfold fu; omega) k2 Ms.refl
      exact Rl.of s1 s2 (h.sc s3 s4)
end WT
