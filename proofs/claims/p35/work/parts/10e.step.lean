/-! the tape: one statement obeyed on both sides; all of them -/
section TE
variable {n : Nat} {B : Nat → Nat} {a nx : Nat}
theorem qN_le : a + 2 ≤ qN n B a ∧ qN n B a ≤ a + 3 := by
  unfold qN
  by_cases z : setB 1 (nb n B (a + 2)) = true
  · rw [if_pos z]; omega
  · rw [if_neg z]; omega
theorem nuV_lt (hd : setB 1 (nb n B (a + 1)) = true) : nuV n B a < 1000 := by
  have := dg_r hd
  unfold nuV
  by_cases z : setB 1 (nb n B (a + 2)) = true
  · rw [if_pos z]
    have := dg_r z
    omega
  · rw [if_neg z]; omega
theorem nb_lt {j b : Nat} (h : nb n B j = b) (hb : b < 256) : j < n := by
  rcases Nat.lt_or_ge j n with q | q
  · exact q
  · rw [nb_out q] at h; omega
theorem app_step {i k : Nat} {υ0 φ0 υ φ : Sg} (hB : TB n B) (h : AppR i υ0 φ0 υ φ) (hT : ∀ j, j < n → υ 56 j = nI (B j)) (hs : SH n B a nx) (hend : nb n B (nx - 1) = 59) (hk : k < 32) (hD : DA φ n B k a) : ∃ (ok : Bool) (υ' φ' : Sg), f_X7_obey 55 17 (nI a) (nI (nx - 1)) υ = some (b2 ok, υ') ∧ f_X11_comes 103 (nI k) φ = some (b2 ok, φ') ∧ AppR i υ0 φ0 υ' φ' := by
  have hn := hB.1
  have hel := nb_lt hend (by decide)
  obtain ⟨D1, D2, D3, D4, D5⟩ := hD
  have nba : nb n B a < 256 → υ (55 + 1) a = nI (nb n B a) := fun hx => by
    have := nb_lt (j := a) rfl hx
    rw [nb_in this]; exact hT a this
  unfold f_X7_obey f_X11_comes
  rw [rdN (σ := φ) (by omega) (by decide), rdN (σ := φ) (by omega) (by decide), rdN (σ := φ) (by omega) (by decide), show φ (103 + 15) k = _ from D3, show φ (103 + 16) k = _ from D4, show φ (103 + 13) k = _ from D1]
  rcases hs with ⟨l, e, d1, d2⟩ | ⟨l, e, d1, d2⟩ | ⟨l, e, d1, d2, d3⟩ | ⟨l, e, d1, d2, d3, d4⟩
  · -- the size
    subst e
    have al := nb_lt l (by decide)
    obtain ⟨x1, x2⟩ := dg_r d1
    obtain ⟨y1, y2⟩ := dg_r d2
    rw [rdN (σ := υ) (by omega) (by decide), nba (by omega), l, if_neg (show ¬ nI 122 = (99 : Int32) by decide), if_neg (show ¬ nI 122 = (99 : Int32) by decide), if_neg (show ¬ nI 122 = (101 : Int32) by decide), if_neg (show ¬ nI 122 = (101 : Int32) by decide), if_pos (show nI 122 = (122 : Int32) from rfl), if_pos (show nI 122 = (122 : Int32) from rfl), nI_1, x_digitAt hB hT d1, call_some, show nI a + 2 = nI (a + 2) from nI_add a 2, x_digitAt hB hT d2, call_some]
    have ef : fF n B a = nb n B (a + 1) - 48 := by unfold fF; rw [if_pos l]
    have es : fS n B a = nb n B (a + 2) - 48 := by unfold fS; rw [if_pos (.inl l)]
    rw [ef, es]
    obtain ⟨ok, υ', φ', z1, z2, z3⟩ := app_z (d1 := nb n B (a + 1) - 48) (d2 := nb n B (a + 2) - 48) h (by omega) (by omega)
    rw [z1, call_some, boN]
    exact ⟨ok, υ', φ', rfl, z2, z3⟩
  · -- a person
    subst e
    have al := nb_lt l (by decide)
    have al1 := set_lt d1
    obtain ⟨y1, y2⟩ := dg_r d2
    rw [rdN (σ := υ) (by omega) (by decide), nba (by omega), l, if_neg (show ¬ nI 112 = (99 : Int32) by decide), if_neg (show ¬ nI 112 = (99 : Int32) by decide), if_neg (show ¬ nI 112 = (101 : Int32) by decide), if_neg (show ¬ nI 112 = (101 : Int32) by decide), if_neg (show ¬ nI 112 = (122 : Int32) by decide), if_neg (show ¬ nI 112 = (122 : Int32) by decide), nI_1, rdN (σ := υ) (by omega) (by decide), show υ (55 + 1) (a + 1) = nI (B (a + 1)) from hT _ al1, x_indexOf (by decide) (hB.2 _ al1), call_some, show nI (a + 4 - 1) - 1 = nI (a + 2) from pk_sub (b := 1) (by omega), x_digitAt hB hT d2, call_some]
    have d1' : setB 5 (B (a + 1)) = true := by
      have := d1
      rw [nb_in al1] at this
      exact this
    have ef : fF n B a = kdN (B (a + 1)) := by unfold fF; rw [if_neg (by omega), if_pos l, nb_in al1]
    have es : fS n B a = nb n B (a + 2) - 48 := by unfold fS; rw [if_pos (.inr l)]
    rw [kd_ix (hB.2 _ al1) d1', ef, es]
    obtain ⟨ok, υ', φ', z1, z2, z3⟩ := app_p (kd := kdN (B (a + 1))) (s := nb n B (a + 2) - 48) h kdN_lt (by omega)
    rw [z1, call_some, boN]
    exact ⟨ok, υ', φ', rfl, z2, z3⟩
  · -- a colour
    subst e
    have al := nb_lt l (by decide)
    have hq := qN_le (n := n) (B := B) (a := a)
    obtain ⟨y1, y2⟩ := dg_r d3
    rw [rdN (σ := υ) (by omega) (by decide), nba (by omega), l, if_pos (show nI 99 = (99 : Int32) from rfl), if_pos (show nI 99 = (99 : Int32) from rfl), nI_1, show nI (qN n B a + 3 - 1) - 2 = nI (qN n B a) from pk_sub (b := 2) (by omega), x_number hB hT d1, call_some, show nI (qN n B a + 3 - 1) - 1 = nI (qN n B a + 1) from pk_sub (b := 1) (by omega), x_digitAt hB hT d3, call_some]
    have ef : fF n B a = nuV n B a := by unfold fF; rw [if_neg (by omega), if_neg (by omega)]
    have es : fS n B a = nb n B (qN n B a + 1) - 48 := by unfold fS; rw [if_neg (by omega), if_pos l]
    rw [ef, es]
    obtain ⟨ok, υ', φ', z1, z2, z3⟩ := app_c (f := nuV n B a) (s := nb n B (qN n B a + 1) - 48) h (nuV_lt d1)
    rw [z1, call_some, boN]
    exact ⟨ok, υ', φ', rfl, z2, z3⟩
  · -- an edge
    subst e
    have al := nb_lt l (by decide)
    have hq := qN_le (n := n) (B := B) (a := a)
    have aq := set_lt d2
    have aq1 := set_lt d3
    obtain ⟨y1, y2⟩ := dg_r d4
    have hnu := nuV_lt d1
    rw [rdN (σ := υ) (by omega) (by decide), nba (by omega), l, if_neg (show ¬ nI 101 = (99 : Int32) by decide), if_neg (show ¬ nI 101 = (99 : Int32) by decide), if_pos (show nI 101 = (101 : Int32) from rfl), if_pos (show nI 101 = (101 : Int32) from rfl), nI_1, show nI (qN n B a + 4 - 1) - 3 = nI (qN n B a) from pk_sub (b := 3) (by omega), x_number hB hT d1, call_some]
    have ef : fF n B a = nuV n B a := by unfold fF; rw [if_neg (by omega), if_neg (by omega)]
    have es : fS n B a = if nb n B (qN n B a) = 114 then 0 else 1 := by unfold fS; rw [if_neg (show ¬ (nb n B a = 122 ∨ nb n B a = 112) by omega), if_neg (show ¬ nb n B a = 99 by omega)]
    have et := D5 l
    rw [ef, es]
    generalize hS : (if nb n B (qN n B a) = 114 then 0 else 1) = s
    have hs2 : s < 2 := by
      rw [← hS]
      by_cases z : nb n B (qN n B a) = 114
      · rw [if_pos z]; decide
      · rw [if_neg z]; decide
    obtain ⟨ok, υ', φ', z1, z2, z3⟩ := app_e (f := nuV n B a) (s := s) (d := nb n B (qN n B a + 2) - 48) (t := fT n B a) (pm := decide (nb n B (qN n B a + 1) = 43)) h hnu hs2 (by omega) (by unfold fT; by_cases z : nb n B (qN n B a + 1) = 43 <;> simp [z])
    -- the class's way through
    have eX : f_X7_obeyEdge 55 17 (nI (nuV n B a)) (nI (qN n B a + 4 - 1)) υ = some (b2 ok, υ') := by
      rw [← z1]
      unfold f_X7_obeyEdge f_X7_obeyEdge_b27 f_X7_obeyEdge_b90
      rw [show nI (qN n B a + 4 - 1) - 1 = nI (qN n B a + 2) from pk_sub (b := 1) (by omega), x_digitAt hB hT d4, call_some, show nI (qN n B a + 4 - 1) - 3 = nI (qN n B a) from pk_sub (b := 3) (by omega), show nI (qN n B a + 4 - 1) - 2 = nI (qN n B a + 1) from pk_sub (b := 2) (by omega), rdN (σ := υ) (by omega) (by decide), show υ (55 + 1) (qN n B a) = nI (B (qN n B a)) from hT _ aq]
      have e114 : (nI (B (qN n B a)) = (114 : Int32)) = (nb n B (qN n B a) = 114) := by
        rw [nb_in aq]
        exact propext (nI_eq (b := 114) (by have := hB.2 _ aq; omega) (by decide))
      have tail : ∀ tw : Nat, tw < 4 → (if υ (17 + 1) 2 ≤ nI (nuV n B a) then some ((0 : Int32), υ) else if nI (nb n B (qN n B a + 2) - 48) < 1 then some (0, υ) else p_call (f_X1_beside (17 + 1) (nI (nuV n B a)) (nI tw) υ) (fun v1 s2 => if v1 = -1 then some (0, s2) else p_rd s2 (55 + 1) 64 (nI (qN n B a + 1)) (fun v3 => if v3 = 43 then p_call (f_X1_setEdge (17 + 1) (nI (nuV n B a)) (nI tw) (nI (nb n B (qN n B a + 2) - 48)) s2) (fun v1 s2 => some (1, s2)) else p_call (f_X1_setEdge (17 + 1) (nI (nuV n B a)) (nI tw) (-(nI (nb n B (qN n B a + 2) - 48))) s2) (fun v1 s2 => some (1, s2))))) = (if υ (17 + 1) 2 ≤ nI (nuV n B a) then some ((0 : Int32), υ) else if nI (nb n B (qN n B a + 2) - 48) < 1 then some (0, υ) else p_call (f_X1_beside (17 + 1) (nI (nuV n B a)) (nI tw) υ) (fun v1 s2 => if v1 = -1 then some (0, s2) else p_call (f_X1_setEdge (17 + 1) (nI (nuV n B a)) (nI tw) (if decide (nb n B (qN n B a + 1) = 43) = true then nI (nb n B (qN n B a + 2) - 48) else -(nI (nb n B (qN n B a + 2) - 48))) s2) (fun _ s2 => some (1, s2)))) := by
        intro tw htw
        obtain ⟨⟨r, c, g1, g2⟩, -⟩ := id h
        have hrc := g1.rc
        by_cases w1 : υ (17 + 1) 2 ≤ nI (nuV n B a)
        · rw [if_pos w1, if_pos w1]
        · rw [if_neg w1, if_neg w1]
          have hlt : nuV n B a < r * c := by
            rw [show υ (17 + 1) 2 = nI (r * c) from g2.1.n] at w1
            rcases Nat.lt_or_ge (nuV n B a) (r * c) with q | q
            · exact q
            · exact absurd (nI_le q (by omega)) w1
          have eb : f_X1_beside (17 + 1) (nI (nuV n B a)) (nI tw) υ = some (bsI (bs r c (nuV n B a) tw), υ) := x_beside g2.1 hlt htw
          rw [eb, call_some, call_some, rdN (by omega) (by decide), show υ (55 + 1) (qN n B a + 1) = nI (B (qN n B a + 1)) from hT _ aq1]
          have e43 : (nI (B (qN n B a + 1)) = (43 : Int32)) = (nb n B (qN n B a + 1) = 43) := by
            rw [nb_in aq1]
            exact propext (nI_eq (b := 43) (by have := hB.2 _ aq1; omega) (by decide))
          simp only [e43]
          by_cases w2 : nb n B (qN n B a + 1) = 43
          · simp only [w2, if_true, decide_true]
          · simp only [w2, if_false, decide_false, Bool.false_eq_true]
      simp only [e114]
      by_cases w : nb n B (qN n B a) = 114
      · rw [if_pos w] at hS ⊢
        subst hS
        exact tail 1 (by decide)
      · rw [if_neg w] at hS ⊢
        subst hS
        exact tail 2 (by decide)
    rw [eX, call_some, boN]
    refine ⟨ok, υ', φ', rfl, ?_, z3⟩
    rw [← z2]
    have ehas : ∀ ψ : Sg, ψ = φ → ψ (103 + 17) k = fT n B a := fun ψ hψ => by rw [hψ]; exact et
    obtain ⟨⟨r, c, g1, g2⟩, -⟩ := id h
    have hrc := g1.rc
    rw [v_isCell g1, call_some, call_some]
    cases hin : inB (r * c) (nI (nuV n B a)) with
    | false => rw [if_pos (show b2 false = 0 from rfl), if_pos (show b2 false = 0 from rfl)]
    | true =>
      rw [if_neg (show ¬ b2 true = 0 by decide), if_neg (show ¬ b2 true = 0 by decide)]
      obtain ⟨f, hf, ef2⟩ := inB_of (by omega) hin
      have hfe : nuV n B a = f := (nI_eq (by omega) (by omega)).mp ef2
      have hlt : nuV n B a < r * c := by omega
      rw [nI_1, y_beside g1.sz hlt (by omega), call_some, call_some, rdN (by omega) (by decide), ehas φ rfl, rdN (by omega) (by decide), ehas φ rfl, rdN (by omega) (by decide), ehas φ rfl]
/-- no end before the end -/
theorem sh_no (hs : SH n B a nx) : a + 4 ≤ nx ∧ ∀ j, a ≤ j → j < nx - 1 → nb n B j ≠ 59 := by
  have hq := qN_le (n := n) (B := B) (a := a)
  have dg : ∀ {j}, setB 1 (nb n B j) = true → nb n B j ≠ 59 := fun h e => by have := dg_r h; omega
  have d2 : qN n B a = a + 3 → setB 1 (nb n B (a + 2)) = true := fun e => by
    unfold qN at e
    by_cases z : setB 1 (nb n B (a + 2)) = true
    · exact z
    · rw [if_neg z] at e; omega
  rcases hs with ⟨l, e, d1, d2'⟩ | ⟨l, e, d1, d2'⟩ | ⟨l, e, d1, d2', d3⟩ | ⟨l, e, d1, d2', d3, d4⟩
  · refine ⟨by omega, fun j h1 h2 => ?_⟩
    rcases (show j = a ∨ j = a + 1 ∨ j = a + 2 by omega) with rfl | rfl | rfl
    · omega
    · exact dg d1
    · exact dg d2'
  · refine ⟨by omega, fun j h1 h2 => ?_⟩
    rcases (show j = a ∨ j = a + 1 ∨ j = a + 2 by omega) with rfl | rfl | rfl
    · omega
    · intro e2
      rw [e2] at d1
      exact absurd d1 (by decide)
    · exact dg d2'
  · refine ⟨by omega, fun j h1 h2 => ?_⟩
    rcases (show j = a ∨ j = a + 1 ∨ j = qN n B a ∨ j = qN n B a + 1 ∨ (j = a + 2 ∧ qN n B a = a + 3) by omega) with rfl | rfl | rfl | rfl | ⟨rfl, z⟩
    · omega
    · exact dg d1
    · omega
    · exact dg d3
    · exact dg (d2 z)
  · refine ⟨by omega, fun j h1 h2 => ?_⟩
    rcases (show j = a ∨ j = a + 1 ∨ j = qN n B a ∨ j = qN n B a + 1 ∨ j = qN n B a + 2 ∨ (j = a + 2 ∧ qN n B a = a + 3) by omega) with rfl | rfl | rfl | rfl | rfl | ⟨rfl, z⟩
    · omega
    · exact dg d1
    · intro e2
      rw [e2] at d2'
      exact absurd d2' (by decide)
    · intro e2
      rw [e2] at d3
      exact absurd d3 (by decide)
    · exact dg d4
    · exact dg (d2 z)
end TE
