/-! the work: begun, sorted, shared -/
/-- the class's work is begun -/
def Bg (υ τ : Sg) (r c u : Nat) (L : List Nat) : Prop := CutOk υ 74 r c (τ 105) (τ 106) ∧ (∀ p, p < r * c → υ 78 p = τ 107 p) ∧ (∀ w, w < 6 → υ 86 w = τ 112 w ∧ υ 87 w = τ 113 w) ∧ υ 72 3 = nI u ∧ OL υ 72 4 89 L
theorem filt_cg {P Q : Nat → Bool} {n : Nat} (h : ∀ q, q < n → P q = Q q) : (List.range n).filter P = (List.range n).filter Q := List.filter_congr (fun x hx => h x (List.mem_range.mp hx))
theorem filt_nil {P : Nat → Bool} {n : Nat} (h : ∀ q, q < n → P q = false) : (List.range n).filter P = [] := by
  rw [List.filter_eq_nil_iff]
  intro a ha
  rw [h a (List.mem_range.mp ha)]
  decide
section WO
variable {i r c u : Nat} {σ τ : Sg}
theorem x_begin (g1 : GOk (gM τ) r c (60 * i)) (g2 : GameOk σ 1 (gM τ) r c) (hu : u < 5) : Ev (f_X9_begin 72 1 (nI u) σ) (fun _ υ => (∀ a, a < 72 ∨ 90 < a → υ a = σ a) ∧ Bg υ τ r c u (ordL u r c (τ 108))) := by
  have hrc := g1.rc
  unfold f_X9_begin
  refine Ev.call (x_copyG' (k := 73) (k1 := 1) (by decide) g2 g1) (fun _ υ1 ⟨f1, G⟩ => ?_)
  rw [p_put_eq, p_put_eq]
  have hs3 : sg_up (sg_up υ1 72 3 (nI u)) 72 4 0 72 3 = nI u := by simp (disch := omega) only [rdN, wrN, rdZ, wrZ, p_put_eq, call_some, nzN, boN, nI_1, nI_add, pk_mul, lit_4, lit_16, le_T, le_F, lt_T, lt_F, eq_T, eq_F, le_T0, le_F0, lt_F0, lt_T0, eq_T0, eq_F0, eqm_F, up_s2, up_n2, Ev_some, nz_0, nz_1, if_true, if_false, reduceIte, and_true, true_and, and_false, false_and, b2_0, b2_1, Bool.true_eq_false, Bool.false_eq_true, not_true_eq_false, not_false_eq_true]
  have hO : OL (sg_up (sg_up υ1 72 3 (nI u)) 72 4 0) 72 4 (72 + 17) [] := ⟨by simp (disch := omega) only [rdN, wrN, rdZ, wrZ, p_put_eq, call_some, nzN, boN, nI_1, nI_add, pk_mul, lit_4, lit_16, le_T, le_F, lt_T, lt_F, eq_T, eq_F, le_T0, le_F0, lt_F0, lt_T0, eq_T0, eq_F0, eqm_F, up_s2, up_n2, Ev_some, nz_0, nz_1, if_true, if_false, reduceIte, and_true, true_and, and_false, false_and, b2_0, b2_1, Bool.true_eq_false, Bool.false_eq_true, not_true_eq_false, not_false_eq_true]; rfl, fun j hj => absurd hj (Nat.not_lt_zero _)⟩
  have hz : CutOk (sg_up (sg_up υ1 72 3 (nI u)) 72 4 0) (72 + 2) r c (τ 105) (τ 106) := G.1.fr (fun j hj => by rw [up_a (by omega), up_a (by omega)])
  have hfr : ∀ a, a ≠ 72 → sg_up (sg_up υ1 72 3 (nI u)) 72 4 0 a = υ1 a := fun a ha => by rw [up_a ha, up_a ha]
  rw [hs3]
  generalize sg_up (sg_up υ1 72 3 (nI u)) 72 4 0 = υ2 at hs3 hO hz hfr
  have hfl : ∀ q, q < r * c → fl (υ2 (72 + 8)) q = flR (τ 108) q := fun q hq => by
    have e1 : fl (τ 108) q = flR (τ 108) q := fl_R g1 (by omega)
    rw [← e1]
    unfold fl
    rw [hfr (72 + 8) (by decide), show υ1 (72 + 8) q = τ 108 q from (G.2.2.2.1 q (by omega)).1]
  -- at the end
  have fin : ∀ υ, (∀ x, x ≠ 72 → x ≠ 89 → υ x = υ2 x) → (∀ y, y ≠ 4 → υ 72 y = υ2 72 y) → OL υ 72 4 89 (ordL u r c (τ 108)) → (∀ a, a < 72 ∨ 90 < a → υ a = σ a) ∧ Bg υ τ r c u (ordL u r c (τ 108)) := by
    intro υ a1 a2 a3
    refine ⟨fun a ha => ?_, hz.fr (fun j hj => a1 _ (by omega) (by omega)), fun p hp => ?_, fun w hw => ?_, by rw [a2 3 (by decide), hs3], a3⟩
    · rw [a1 a (by omega) (by omega), hfr a (by omega), f1 a (by omega)]
    · rw [a1 78 (by decide) (by decide), hfr 78 (by decide)]; exact G.2.2.1 p hp
    · rw [a1 86 (by decide) (by decide), a1 87 (by decide) (by decide), hfr 86 (by decide), hfr 87 (by decide)]
      exact ⟨(G.2.2.2.2.2 w hw).1, (G.2.2.2.2.2 w hw).2.1⟩
  by_cases hu1 : u = 1
  · subst hu1
    rw [if_pos (show nI 1 = 1 from rfl)]
    refine Ev.call (show Ev (f_X9_addCells 72 (b2 true) (b2 false) υ2) _ from x_addCells hz hO (fun q hq _ => ?_)) (fun _ υ3 ⟨b1, b2', b3⟩ => ?_)
    · have := filt_le (P := ordC true false r c (υ2 (72 + 8))) q
      simp only [List.length_nil, Nat.zero_add]
      omega
    rw [List.nil_append] at b3
    have e80 : υ3 (72 + 8) = υ2 (72 + 8) := b1 _ (by decide) (by decide)
    have hz3 : CutOk υ3 (72 + 2) r c (τ 105) (τ 106) := hz.fr (fun j hj => b1 _ (by omega) (by omega))
    refine Ev.call (show Ev (f_X9_addCells 72 (b2 false) (b2 true) υ3) _ from x_addCells hz3 b3 (fun q hq hP => ?_)) (fun _ υ4 ⟨c1, c2, c3⟩ => ?_)
    · have m1 := filt_mono (P := ordC false true r c (υ3 (72 + 8))) hq hP
      have m2 := filt_two (P := ordC true false r c (υ2 (72 + 8))) (Q := ordC false true r c (υ3 (72 + 8))) (fun q x y => by
        unfold ordC at x y
        cases hr : rim r c q <;> rw [hr] at x y <;> simp at x y) (r * c)
      omega
    rw [Ev_some]
    refine fin υ4 (fun x y z => (c1 x y z).trans (b1 x y z)) (fun y hy => (c2 y hy).trans (b2' y hy)) ?_
    rw [e80] at c3
    have e : ordL 1 r c (τ 108) = (List.range (r * c)).filter (ordC true false r c (υ2 (72 + 8))) ++ (List.range (r * c)).filter (ordC false true r c (υ2 (72 + 8))) := by
      unfold ordL
      congr 1
      · refine filt_cg (fun q hq => ?_)
        unfold ordR ordC erl
        rw [hfl q hq]
        cases rim r c q <;> cases flR (τ 108) q <;> rfl
      · refine filt_cg (fun q hq => ?_)
        unfold ordR ordC erl
        rw [hfl q hq]
        cases rim r c q <;> cases flR (τ 108) q <;> rfl
    rw [e]
    exact c3
  · rw [if_neg (show ¬ nI u = 1 from fun e => hu1 ((nI_eq (b := 1) (by omega) (by decide)).mp e))]
    refine Ev.call (show Ev (f_X9_addCells 72 (b2 true) (b2 true) υ2) _ from x_addCells hz hO (fun q hq _ => ?_)) (fun _ υ3 ⟨b1, b2', b3⟩ => ?_)
    · have := filt_le (P := ordC true true r c (υ2 (72 + 8))) q
      simp only [List.length_nil, Nat.zero_add]
      omega
    rw [Ev_some]
    refine fin υ3 b1 b2' ?_
    have e : ordL u r c (τ 108) = [] ++ (List.range (r * c)).filter (ordC true true r c (υ2 (72 + 8))) := by
      unfold ordL
      rw [filt_nil (P := ordR u r c 1 (τ 108)) (fun q hq => by unfold ordR erl; rw [decide_eq_false hu1]; cases flR (τ 108) q <;> rfl), List.append_nil, List.nil_append]
      refine filt_cg (fun q hq => ?_)
      unfold ordR ordC erl
      rw [hfl q hq, decide_eq_false hu1]
      cases rim r c q <;> cases flR (τ 108) q <;> rfl
    rw [e]
    exact b3
/-- what sorting costs, by a rule and so many pieces -/
def srtV (u : Nat) (n : Int32) : Int32 := if u = 2 then 2 * n else if u ≤ 2 then 0 else 3 * n
theorem sm_mul {e : Int32} {a : Nat → Bool} : ∀ (n i : Nat), sm (fun p => if a p = true then e else 0) i n = e * sm (fun p => b2 (a p)) i n
  | 0, _ => by unfold sm; grind
  | n + 1, i => by
    unfold sm
    rw [sm_mul n (i + 1)]
    cases a i
    · show 0 + _ = e * (0 + _)
      grind
    · show e + _ = e * (1 + _)
      grind
def cntV (lo pc : Nat → Int32) (m : Nat) : Int32 := sm (fun p => b2 (decide (lo p = 0) && !(laidB pc m (nI p)))) 0 m
theorem x_sorting {υ : Sg} {L : List Nat} (g1 : GOk (gM τ) r c (60 * i)) (g2 : GameOk υ 1 (gM τ) r c) (hu : u < 5) (hB : Bg υ τ r c u L) : f_X9_sortingCost 72 7 υ = some (srtV u (cntV (τ 111) (τ 108) (r * c)), υ) := by
  have hrc := g1.rc
  have lp : ∀ e : Int32, f_X9_sortingCost_b39 72 7 fu e 0 0 υ = some (e * cntV (τ 111) (τ 108) (r * c), υ) := fun e => by
    have h := lp_sm (L := fun n p a => f_X9_sortingCost_b39 72 7 n e a (nI p) υ) (m := r * c) (g := fun p => if (decide (τ 111 p = 0) && !(laidB (τ 108) (r * c) (nI p))) = true then e else 0) (E := fun a => some (a, υ)) (fun n a => by
      show f_X9_sortingCost_b39 72 7 (n + 1) e a (nI (r * c)) υ = _
      rw [f_X9_sortingCost_b39, show υ (72 + 1 + 1) 2 = nI (r * c) from hB.1.n]
      simp (disch := omega) only [rdN, wrN, rdZ, wrZ, p_put_eq, call_some, nzN, boN, nI_1, nI_add, pk_mul, lit_4, lit_16, le_T, le_F, lt_T, lt_F, eq_T, eq_F, le_T0, le_F0, lt_F0, lt_T0, eq_T0, eq_F0, eqm_F, up_s2, up_n2, Ev_some, nz_0, nz_1, if_true, if_false, reduceIte, and_true, true_and, and_false, false_and, b2_0, b2_1, Bool.true_eq_false, Bool.false_eq_true, not_true_eq_false, not_false_eq_true]) (fun n p a hp => by
      show f_X9_sortingCost_b39 72 7 (n + 1) e a (nI p) υ = f_X9_sortingCost_b39 72 7 n e (a + _) (nI (p + 1)) υ
      have hp16 : p < 16 := by omega
      have l01 : τ 111 p = 0 ∨ τ 111 p = 1 := lost01 g1 hp16
      rw [f_X9_sortingCost_b39, show υ (72 + 1 + 1) 2 = nI (r * c) from hB.1.n, if_neg (nI_ge (by omega) (by omega)), x_isAway hp16, call_some, show aw (υ (7 + 4)) (υ (7 + 5)) p = _ from aw_eq g1 g2 hp16]
      unfold f_X9_sortingCost_b67
      rw [nI_1]
      rcases l01 with l | l <;> rw [l] <;> cases laidB (τ 108) (r * c) (nI p) <;> simp [b2]) fu 0 0 (Nat.zero_le _) (fu_lt (by omega))
    rw [Int32.zero_add, Nat.sub_zero, sm_mul] at h
    exact h
  unfold f_X9_sortingCost f_X9_sortingCost_b28 f_X9_sortingCost_b33 srtV
  rw [hB.2.2.2.1, lp, lp, lp]
  rcases (show u = 0 ∨ u = 1 ∨ u = 2 ∨ u = 3 ∨ u = 4 by omega) with rfl | rfl | rfl | rfl | rfl
  · rw [if_neg (by decide), if_neg (by decide), if_neg (by decide), if_neg (by decide), if_pos (by decide), Int32.zero_mul]
  · rw [if_neg (by decide), if_neg (by decide), if_neg (by decide), if_neg (by decide), if_pos (by decide), Int32.zero_mul]
  · rw [if_pos (by decide), if_pos (by decide)]
  · rw [if_neg (by decide), if_pos (by decide), if_neg (by decide), if_neg (by decide)]
  · rw [if_neg (by decide), if_neg (by decide), if_pos (by decide), if_neg (by decide), if_neg (by decide)]
theorem y_sortsFor {k : Nat} (hz : Sz τ k r c) (hu : u < 5) : f_X11_sortsFor k (nI u) τ = some (srtV u (cntV (τ (k + 8)) (τ (k + 5)) (r * c)), τ) := by
  have hrc := hz.rc
  have h := lp_sm (L := fun n p a => f_X11_sortsFor_b4 k n (nI u) a (nI p) τ) (m := r * c) (g := fun p => b2 (decide (τ (k + 8) p = 0) && !(laidB (τ (k + 5)) (r * c) (nI p)))) (E := fun a => some (srtV u a, τ)) (fun n a => by
    show f_X11_sortsFor_b4 k (n + 1) (nI u) a (nI (r * c)) τ = _
    rw [f_X11_sortsFor_b4, y_cells hz, call_some, if_pos (nI_le (Nat.le_refl _) (by omega))]
    unfold srtV
    rcases (show u = 0 ∨ u = 1 ∨ u = 2 ∨ u = 3 ∨ u = 4 by omega) with rfl | rfl | rfl | rfl | rfl
    · rw [if_neg (by decide), if_pos (by decide), if_neg (by decide), if_pos (by decide)]
    · rw [if_neg (by decide), if_pos (by decide), if_neg (by decide), if_pos (by decide)]
    · rw [if_pos (by decide), if_pos (by decide)]
    · rw [if_neg (by decide), if_neg (by decide), if_neg (by decide), if_neg (by decide)]
    · rw [if_neg (by decide), if_neg (by decide), if_neg (by decide), if_neg (by decide)]) (fun n p a hp => by
    show f_X11_sortsFor_b4 k (n + 1) (nI u) a (nI p) τ = f_X11_sortsFor_b4 k n (nI u) (a + _) (nI (p + 1)) τ
    rw [f_X11_sortsFor_b4, y_cells hz, call_some, if_neg (nI_ge (by omega) (by omega)), rdN (by omega) (by decide), y_isLaid hz, call_some]
    unfold f_X11_sortsFor_b34 f_X11_sortsFor_b35
    rw [nI_1]
    by_cases l : τ (k + 8) p = 0
    · rw [if_pos l, decide_eq_true l]
      cases laidB (τ (k + 5)) (r * c) (nI p) <;> simp [b2]
    · rw [if_neg l, decide_eq_false l]
      simp [b2]) fu 0 0 (Nat.zero_le _) (fu_lt (by omega))
  rw [Int32.zero_add, Nat.sub_zero] at h
  exact h
theorem jmax1 {s : Nat} (h1 : 1 ≤ s) (h2 : s < 100) : jmax 1 (nI s) = nI s := by
  have key : ∀ s, s < 100 → 1 ≤ s → jmax 1 (nI s) = nI s := by decide +kernel
  exact key s h2 h1
theorem Ms.trans {τ υ φ : Sg} (h : Ms τ υ) (g : Ms υ φ) : Ms τ φ := by
  obtain ⟨⟨a1, a2, a3⟩, ⟨b1, b2, b3⟩, b4, b5⟩ := h
  obtain ⟨⟨c1, c2, c3⟩, ⟨d1, d2, d3⟩, d4, d5⟩ := g
  exact ⟨⟨c1.trans a1, c2.trans a2, c3.trans a3⟩, ⟨d1.trans b1, d2.trans b2, d3.trans b3⟩, fun b hb => (d4 b hb).trans (b4 b hb), b5.trans d5⟩
/-- the cells of one person, one behind another -/
theorem w_loop {υ0 τ1 τa : Sg} {w st fr M e : Nat} {L : List Nat} (hzr : Sz τ1 103 r c) (he : Ed (τ1 105) (τ1 106)) (hl : ∀ p, p < 16 → τ1 111 p = 0 ∨ τ1 111 p = 1) (hu : u < 5) (hw : w < 6) (hk : ∃ d, d < 5 ∧ τ1 112 w = nI d) (hst : 1 ≤ st) (hst2 : st < 100) (hL : ∀ j, j < L.length → L.getD j 0 < r * c) (hLn : L.Nodup) (hL16 : L.length ≤ 16) (hoX : ∀ j, j < L.length → υ0 89 j = nI (L.getD j 0)) (hoM : ∀ j, j < L.length → τ1 124 j = nI (L.getD j 0)) (hoN : τ1 103 35 = nI L.length) (hM : M < 1000) (hee : e = min M L.length) (back : ∀ (φ : Sg) (v : Int32), (∀ a, a ≠ 103 → a ≠ 108 → a ≠ 109 → a ≠ 125 → φ a = τ1 a) → (∀ b, b ≠ 36 → φ 103 b = τ1 103 b) → Ev (f_X11_doneBy_b66 103 v φ) (fun v' ψ => v' = v ∧ Ms τa ψ)) : ∀ (m j ci F G : Nat) (s : Int32) (υ φ : Sg), j + m = e → j ≤ ci → ci < j + st → ci % st = fr → m < F → m < G → WR υ0 τ1 υ φ r c u → (∀ j', j ≤ j' → j' < L.length → φ 108 (L.getD j' 0) = -1) → ∃ v υ', f_X9_share_b20 72 1 F (nI w) (nI st) (nI e) s (nI ci) υ = some (v, υ') ∧ (∃ φ', WR υ0 τ1 υ' φ' r c u) ∧ Ev (f_X11_doneBy_b17 103 G (nI u) (nI w) (nI M) (nI st) (nI fr) s (nI j) φ) (fun v' ψ => v' = v ∧ Ms τa ψ)
  | 0, j, ci, F, G, s, υ, φ, hm, h1, h2, h3, hF, hG, hR, hU => by
    obtain ⟨F', rfl⟩ : ∃ F', F = F' + 1 := ⟨F - 1, by omega⟩
    obtain ⟨G', rfl⟩ : ∃ G', G = G' + 1 := ⟨G - 1, by omega⟩
    refine ⟨s, υ, ?_, ⟨φ, hR⟩, ?_⟩
    · rw [f_X9_share_b20, if_pos (nI_le (by omega) (by omega))]
    · rw [f_X11_doneBy_b17]
      rcases Nat.lt_or_ge j M with q | q
      · rw [if_neg (nI_ge q (by omega)), hR.2.2.2.2.2 35 (by decide), hoN, if_pos (nI_le (by omega) (by omega))]
        exact back φ s hR.2.2.2.2.1 hR.2.2.2.2.2
      · rw [if_pos (nI_le q (by omega))]
        exact back φ s hR.2.2.2.2.1 hR.2.2.2.2.2
  | m + 1, j, ci, F, G, s, υ, φ, hm, h1, h2, h3, hF, hG, hR, hU => by
    obtain ⟨F', rfl⟩ : ∃ F', F = F' + 1 := ⟨F - 1, by omega⟩
    obtain ⟨G', rfl⟩ : ∃ G', G = G' + 1 := ⟨G - 1, by omega⟩
    have hjM : j < M := by omega
    have hjL : j < L.length := by omega
    have erem : nI j - nI j / nI st * nI st = nI (j % st) := pk_rem (by omega) hst (by omega)
    have hmod : j % st < st := Nat.mod_lt _ hst
    have hfr : fr < st := by rw [← h3]; exact Nat.mod_lt _ hst
    rw [f_X11_doneBy_b17, if_neg (nI_ge hjM (by omega)), hR.2.2.2.2.2 35 (by decide), hoN, if_neg (nI_ge hjL (by omega)), nzN hst (by omega), erem]
    unfold f_X11_doneBy_b60
    rw [nI_1]
    by_cases hj : j % st = fr
    · -- this cell is theirs
      have hci : ci = j := by
        have a1 := Nat.div_add_mod j st
        have a2 := Nat.div_add_mod ci st
        rw [hj] at a1
        rw [h3] at a2
        have : ci / st = j / st := by
          have l1 : st * (j / st) ≤ st * (ci / st) := by omega
          have l2 : st * (ci / st) < st * (j / st) + st := by omega
          have l3 : j / st ≤ ci / st := Nat.le_of_mul_le_mul_left l1 hst
          have l4 : ci / st < j / st + 1 := by
            have : st * (ci / st) < st * (j / st + 1) := by rw [Nat.mul_add, Nat.mul_one]; exact l2
            exact Nat.lt_of_mul_lt_mul_left this
          omega
        rw [this] at a2
        omega
      subst hci
      have hq := hL ci hjL
      have hr16 := hzr.rc
      have o1 : υ (72 + 17) ci = nI (L.getD ci 0) := by rw [show υ (72 + 17) = υ0 89 from hR.2.2.2.1.2.1]; exact hoX ci hjL
      have o2 : φ (103 + 21) ci = nI (L.getD ci 0) := by rw [show φ (103 + 21) = τ1 124 from hR.2.2.2.2.1 124 (by decide) (by decide) (by decide) (by decide)]; exact hoM ci hjL
      rw [if_pos (by rw [hj]), rdN (by omega) (by decide), o2, f_X9_share_b20, if_neg (nI_ge (by omega) (by omega)), rdN (by omega) (by decide), o1]
      obtain ⟨v, υ', φ', e1, e2, P1, P2⟩ := w_fill hzr he hl hu hw hk hq hR (hU ci (Nat.le_refl _) hjL)
      rw [e1, call_some, e2, call_some, jmax1 hst hst2, nI_add]
      refine w_loop hzr he hl hu hw hk hst hst2 hL hLn hL16 hoX hoM hoN hM hee back m (ci + 1) (ci + st) F' G' (s + v) υ' φ' (by omega) (by omega) (by omega) (by rw [Nat.add_mod_right]; exact h3) (by omega) (by omega) P1 (fun j' a b => ?_)
      rw [P2 _ (fun e => by have := getD_inj hLn b hjL e; omega)]
      exact hU j' (by omega) b
    · rw [if_neg (fun e => hj ((nI_eq (by omega) (by omega)).mp e))]
      have hne : ci ≠ j := fun e => hj (by rw [← e]; exact h3)
      exact w_loop hzr he hl hu hw hk hst hst2 hL hLn hL16 hoX hoM hoN hM hee back m (j + 1) ci (F' + 1) G' s υ φ (by omega) (by omega) (by omega) h3 (by omega) (by omega) hR (fun j' a b => hU j' (by omega) b)
end WO
