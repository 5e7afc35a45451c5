/-! printed by wip/whole/gen/gen.py: methods as pure functions, and that the machine does them -/
def f_X10_refuse (k : Nat) (x1 : Int32) (σ : Sg) : Rs := p_rd σ (k + 102) 7 (-x1) (fun v1 => p_wr σ (k + 102) 7 (-x1) (v1 + 1) (fun s2 => some (x1, s2)))
set_option maxRecDepth 100000 in
set_option maxHeartbeats 4000000 in
theorem k_X10_refuse_b0 {q : Mc} {E : En} {L : List Nat} {o : Int32 × Sg} (C : Cx q E L cX10_refuse 2 RX10 (some .int) (1)) (k : Nat) (hB : Bk L sh_AuntsPuzzle k) (x1 : Int32) (σ : Sg) (hf : f_X10_refuse k x1 σ = some o) : Vx q E L 2 (some .int) o 0 [(0, .ref (E.2.1 (k))), (1, .int x1)] [] σ := by
  unfold f_X10_refuse at hf
  refine v_aload_n 0 C dX10_refuse_0 rfl rfl ?_
  refine v_getR 1 C lk_X10_71 (hB 0 _ rfl) (by decide) rfl dX10_refuse_1 ?_
  refine v_iload_n 4 C dX10_refuse_4 rfl rfl ?_
  refine v_ineg 5 C dX10_refuse_5 ?_
  refine v_dup2 6 C dX10_refuse_6 rfl rfl ?_
  refine v_iald 7 C (hB 102 _ rfl) dX10_refuse_7 hf (fun v1 hf => ?_)
  refine v_iconst (v := 1) 8 C dX10_refuse_8 (by decide) ?_
  refine v_iadd 9 C dX10_refuse_9 ?_
  refine v_iast 10 C (hB 102 _ rfl) dX10_refuse_10 hf (fun s2 hf => ?_)
  refine v_iload_n 11 C dX10_refuse_11 rfl rfl ?_
  exact v_iret 12 C rfl dX10_refuse_12 hf
theorem m_X10_refuse {l : Launch} {E : En} {L : List Nat} (k : Nat) (hB : Bk L sh_AuntsPuzzle k) (x1 : Int32) (σ : Sg) (o : Int32 × Sg) (hf : f_X10_refuse k x1 σ = some o) : Mi l yX10_refuse cX10_refuse 2 (some .int) (1) E L [.ref (E.2.1 (k)), .int x1] σ o :=
  Mi.of RX10 rfl (by decide) (Nat.le_of_ble_eq_true rfl) (fun q hq C => by subst hq; exact k_X10_refuse_b0 C k hB x1 σ hf)
def f_X10_isCell (k : Nat) (x1 : Int32) (σ : Sg) : Rs := if x1 < 0 then (some (0, σ)) else (if (σ (k + 1 + 1) 2) ≤ x1 then (some (0, σ)) else (some (1, σ)))
set_option maxRecDepth 100000 in
set_option maxHeartbeats 4000000 in
theorem k_X10_isCell_b0 {q : Mc} {E : En} {L : List Nat} {o : Int32 × Sg} (C : Cx q E L cX10_isCell 2 RX10 (some .boolean) (1)) (k : Nat) (hB : Bk L sh_AuntsPuzzle k) (x1 : Int32) (σ : Sg) (hf : f_X10_isCell k x1 σ = some o) : Vx q E L 2 (some .boolean) o 0 [(0, .ref (E.2.1 (k))), (1, .int x1)] [] σ := by
  unfold f_X10_isCell at hf
  refine v_iload_n 0 C dX10_isCell_0 rfl rfl ?_
  refine v_if_lt (tgt := 22) 1 C dX10_isCell_1 (by decide) hf (fun hf => ?_) (fun hf => ?_)
  · refine v_iconst (v := 0) 22 C dX10_isCell_22 (by decide) ?_
    exact v_zretN 23 C rfl dX10_isCell_23 (by decide) hf
  · refine v_iload_n 4 C dX10_isCell_4 rfl rfl ?_
    refine v_aload_n 5 C dX10_isCell_5 rfl rfl ?_
    refine v_getR 6 C lk_X10_10 (hB 0 _ rfl) (by decide) rfl dX10_isCell_6 ?_
    refine v_getR 9 C lk_X10_113 ((hB.sub (sh' := sh_Game) 1 rfl) 0 _ rfl) (by decide) rfl dX10_isCell_9 ?_
    refine v_getI (dum := 0) 12 C lk_X10_239 (((hB.sub (sh' := sh_Game) 1 rfl).sub (sh' := sh_Cut) 1 rfl) 0 _ rfl) (by decide) rfl dX10_isCell_12 ?_
    refine v_icmp_ge (tgt := 22) 15 C dX10_isCell_15 (by decide) hf (fun hf => ?_) (fun hf => ?_)
    · refine v_iconst (v := 0) 22 C dX10_isCell_22 (by decide) ?_
      exact v_zretN 23 C rfl dX10_isCell_23 (by decide) hf
    · refine v_iconst (v := 1) 18 C dX10_isCell_18 (by decide) ?_
      refine v_goto (tgt := 23) 19 C dX10_isCell_19 (by decide) ?_
      exact v_zretN 23 C rfl dX10_isCell_23 (by decide) hf
theorem m_X10_isCell {l : Launch} {E : En} {L : List Nat} (k : Nat) (hB : Bk L sh_AuntsPuzzle k) (x1 : Int32) (σ : Sg) (o : Int32 × Sg) (hf : f_X10_isCell k x1 σ = some o) : Mi l yX10_isCell cX10_isCell 2 (some .boolean) (1) E L [.ref (E.2.1 (k)), .int x1] σ o :=
  Mi.of RX10 rfl (by decide) (Nat.le_of_ble_eq_true rfl) (fun q hq C => by subst hq; exact k_X10_isCell_b0 C k hB x1 σ hf)
def f_X10_isPerson (k : Nat) (x1 : Int32) (σ : Sg) : Rs := if x1 < 0 then (some (0, σ)) else (if (σ (k + 1 + 12) 0) ≤ x1 then (some (0, σ)) else (some (1, σ)))
set_option maxRecDepth 100000 in
set_option maxHeartbeats 4000000 in
theorem k_X10_isPerson_b0 {q : Mc} {E : En} {L : List Nat} {o : Int32 × Sg} (C : Cx q E L cX10_isPerson 2 RX10 (some .boolean) (1)) (k : Nat) (hB : Bk L sh_AuntsPuzzle k) (x1 : Int32) (σ : Sg) (hf : f_X10_isPerson k x1 σ = some o) : Vx q E L 2 (some .boolean) o 0 [(0, .ref (E.2.1 (k))), (1, .int x1)] [] σ := by
  unfold f_X10_isPerson at hf
  refine v_iload_n 0 C dX10_isPerson_0 rfl rfl ?_
  refine v_if_lt (tgt := 22) 1 C dX10_isPerson_1 (by decide) hf (fun hf => ?_) (fun hf => ?_)
  · refine v_iconst (v := 0) 22 C dX10_isPerson_22 (by decide) ?_
    exact v_zretN 23 C rfl dX10_isPerson_23 (by decide) hf
  · refine v_iload_n 4 C dX10_isPerson_4 rfl rfl ?_
    refine v_aload_n 5 C dX10_isPerson_5 rfl rfl ?_
    refine v_getR 6 C lk_X10_10 (hB 0 _ rfl) (by decide) rfl dX10_isPerson_6 ?_
    refine v_getR 9 C lk_X10_129 ((hB.sub (sh' := sh_Game) 1 rfl) 0 _ rfl) (by decide) rfl dX10_isPerson_9 ?_
    refine v_getI (dum := 0) 12 C lk_X10_229 (((hB.sub (sh' := sh_Game) 1 rfl).sub (sh' := sh_People) 12 rfl) 0 _ rfl) (by decide) rfl dX10_isPerson_12 ?_
    refine v_icmp_ge (tgt := 22) 15 C dX10_isPerson_15 (by decide) hf (fun hf => ?_) (fun hf => ?_)
    · refine v_iconst (v := 0) 22 C dX10_isPerson_22 (by decide) ?_
      exact v_zretN 23 C rfl dX10_isPerson_23 (by decide) hf
    · refine v_iconst (v := 1) 18 C dX10_isPerson_18 (by decide) ?_
      refine v_goto (tgt := 23) 19 C dX10_isPerson_19 (by decide) ?_
      exact v_zretN 23 C rfl dX10_isPerson_23 (by decide) hf
theorem m_X10_isPerson {l : Launch} {E : En} {L : List Nat} (k : Nat) (hB : Bk L sh_AuntsPuzzle k) (x1 : Int32) (σ : Sg) (o : Int32 × Sg) (hf : f_X10_isPerson k x1 σ = some o) : Mi l yX10_isPerson cX10_isPerson 2 (some .boolean) (1) E L [.ref (E.2.1 (k)), .int x1] σ o :=
  Mi.of RX10 rfl (by decide) (Nat.le_of_ble_eq_true rfl) (fun q hq C => by subst hq; exact k_X10_isPerson_b0 C k hB x1 σ hf)
def f_X10_isTurn (k : Nat) (x1 : Int32) (σ : Sg) : Rs := if x1 < 0 then (some (0, σ)) else (if 4 ≤ x1 then (some (0, σ)) else (some (1, σ)))
set_option maxRecDepth 100000 in
set_option maxHeartbeats 4000000 in
theorem k_X10_isTurn_b0 {q : Mc} {E : En} {L : List Nat} {o : Int32 × Sg} (C : Cx q E L cX10_isTurn 2 RX10 (some .boolean) (1)) (k : Nat) (hB : Bk L sh_AuntsPuzzle k) (x1 : Int32) (σ : Sg) (hf : f_X10_isTurn k x1 σ = some o) : Vx q E L 2 (some .boolean) o 0 [(0, .ref (E.2.1 (k))), (1, .int x1)] [] σ := by
  unfold f_X10_isTurn at hf
  refine v_iload_n 0 C dX10_isTurn_0 rfl rfl ?_
  refine v_if_lt (tgt := 13) 1 C dX10_isTurn_1 (by decide) hf (fun hf => ?_) (fun hf => ?_)
  · refine v_iconst (v := 0) 13 C dX10_isTurn_13 (by decide) ?_
    exact v_zretN 14 C rfl dX10_isTurn_14 (by decide) hf
  · refine v_iload_n 4 C dX10_isTurn_4 rfl rfl ?_
    refine v_iconst (v := 4) 5 C dX10_isTurn_5 (by decide) ?_
    refine v_icmp_ge (tgt := 13) 6 C dX10_isTurn_6 (by decide) hf (fun hf => ?_) (fun hf => ?_)
    · refine v_iconst (v := 0) 13 C dX10_isTurn_13 (by decide) ?_
      exact v_zretN 14 C rfl dX10_isTurn_14 (by decide) hf
    · refine v_iconst (v := 1) 9 C dX10_isTurn_9 (by decide) ?_
      refine v_goto (tgt := 14) 10 C dX10_isTurn_10 (by decide) ?_
      exact v_zretN 14 C rfl dX10_isTurn_14 (by decide) hf
theorem m_X10_isTurn {l : Launch} {E : En} {L : List Nat} (k : Nat) (hB : Bk L sh_AuntsPuzzle k) (x1 : Int32) (σ : Sg) (o : Int32 × Sg) (hf : f_X10_isTurn k x1 σ = some o) : Mi l yX10_isTurn cX10_isTurn 2 (some .boolean) (1) E L [.ref (E.2.1 (k)), .int x1] σ o :=
  Mi.of RX10 rfl (by decide) (Nat.le_of_ble_eq_true rfl) (fun q hq C => by subst hq; exact k_X10_isTurn_b0 C k hB x1 σ hf)
def f_X10_isRule (k : Nat) (x1 : Int32) (σ : Sg) : Rs := if x1 < 0 then (some (0, σ)) else (if 5 ≤ x1 then (some (0, σ)) else (some (1, σ)))
set_option maxRecDepth 100000 in
set_option maxHeartbeats 4000000 in
theorem k_X10_isRule_b0 {q : Mc} {E : En} {L : List Nat} {o : Int32 × Sg} (C : Cx q E L cX10_isRule 2 RX10 (some .boolean) (1)) (k : Nat) (hB : Bk L sh_AuntsPuzzle k) (x1 : Int32) (σ : Sg) (hf : f_X10_isRule k x1 σ = some o) : Vx q E L 2 (some .boolean) o 0 [(0, .ref (E.2.1 (k))), (1, .int x1)] [] σ := by
  unfold f_X10_isRule at hf
  refine v_iload_n 0 C dX10_isRule_0 rfl rfl ?_
  refine v_if_lt (tgt := 13) 1 C dX10_isRule_1 (by decide) hf (fun hf => ?_) (fun hf => ?_)
  · refine v_iconst (v := 0) 13 C dX10_isRule_13 (by decide) ?_
    exact v_zretN 14 C rfl dX10_isRule_14 (by decide) hf
  · refine v_iload_n 4 C dX10_isRule_4 rfl rfl ?_
    refine v_iconst (v := 5) 5 C dX10_isRule_5 (by decide) ?_
    refine v_icmp_ge (tgt := 13) 6 C dX10_isRule_6 (by decide) hf (fun hf => ?_) (fun hf => ?_)
    · refine v_iconst (v := 0) 13 C dX10_isRule_13 (by decide) ?_
      exact v_zretN 14 C rfl dX10_isRule_14 (by decide) hf
    · refine v_iconst (v := 1) 9 C dX10_isRule_9 (by decide) ?_
      refine v_goto (tgt := 14) 10 C dX10_isRule_10 (by decide) ?_
      exact v_zretN 14 C rfl dX10_isRule_14 (by decide) hf
theorem m_X10_isRule {l : Launch} {E : En} {L : List Nat} (k : Nat) (hB : Bk L sh_AuntsPuzzle k) (x1 : Int32) (σ : Sg) (o : Int32 × Sg) (hf : f_X10_isRule k x1 σ = some o) : Mi l yX10_isRule cX10_isRule 2 (some .boolean) (1) E L [.ref (E.2.1 (k)), .int x1] σ o :=
  Mi.of RX10 rfl (by decide) (Nat.le_of_ble_eq_true rfl) (fun q hq C => by subst hq; exact k_X10_isRule_b0 C k hB x1 σ hf)
def f_X10_refusalOfTry (k : Nat) (x1 : Int32) (x2 : Int32) (x3 : Int32) (x4 : Int32) (σ : Sg) : Rs := p_call (f_X10_isPerson k x1 σ) (fun v1 s2 => if v1 = 0 then (some ((-1), s2)) else (p_call (f_X10_isCell k x2 s2) (fun v3 s4 => if v3 = 0 then (some ((-1), s4)) else (p_call (f_X10_isCell k x4 s4) (fun v5 s6 => if v5 = 0 then (some ((-1), s6)) else (p_call (f_X10_isTurn k x3 s6) (fun v7 s8 => if v7 = 0 then (some ((-2), s8)) else (some (0, s8)))))))))
set_option maxRecDepth 100000 in
set_option maxHeartbeats 4000000 in
theorem k_X10_refusalOfTry_b0 {q : Mc} {E : En} {L : List Nat} {o : Int32 × Sg} (C : Cx q E L cX10_refusalOfTry 5 RX10 (some .int) (2)) (k : Nat) (hB : Bk L sh_AuntsPuzzle k) (x1 : Int32) (x2 : Int32) (x3 : Int32) (x4 : Int32) (σ : Sg) (hf : f_X10_refusalOfTry k x1 x2 x3 x4 σ = some o) : Vx q E L 5 (some .int) o 0 [(0, .ref (E.2.1 (k))), (1, .int x1), (2, .int x2), (3, .int x3), (4, .int x4)] [] σ := by
  unfold f_X10_refusalOfTry at hf
  refine v_aload_n 0 C dX10_refusalOfTry_0 rfl rfl ?_
  refine v_iload_n 1 C dX10_refusalOfTry_1 rfl rfl ?_
  refine v_callV (st := []) 2 C [.int x1] lm_X10_126 ly_X10_isPerson (hB 0 _ rfl) (by decide) dX10_refusalOfTry_2 rfl (by decide) rfl (Nat.le_of_ble_eq_true rfl) (fun o1 h1 => m_X10_isPerson k hB x1 σ o1 h1) hf (fun v1 s2 hf => ?_)
  refine v_if_eq (tgt := 25) 5 C dX10_refusalOfTry_5 (by decide) hf (fun hf => ?_) (fun hf => ?_)
  · refine v_iconst (v := (-1)) 25 C dX10_refusalOfTry_25 (by decide) ?_
    exact v_iret 26 C rfl dX10_refusalOfTry_26 hf
  · refine v_aload_n 8 C dX10_refusalOfTry_8 rfl rfl ?_
    refine v_iload_n 9 C dX10_refusalOfTry_9 rfl rfl ?_
    refine v_callV (st := []) 10 C [.int x2] lm_X10_105 ly_X10_isCell (hB 0 _ rfl) (by decide) dX10_refusalOfTry_10 rfl (by decide) rfl (Nat.le_of_ble_eq_true rfl) (fun o1 h1 => m_X10_isCell k hB x2 s2 o1 h1) hf (fun v3 s4 hf => ?_)
    refine v_if_eq (tgt := 25) 13 C dX10_refusalOfTry_13 (by decide) hf (fun hf => ?_) (fun hf => ?_)
    · refine v_iconst (v := (-1)) 25 C dX10_refusalOfTry_25 (by decide) ?_
      exact v_iret 26 C rfl dX10_refusalOfTry_26 hf
    · refine v_aload_n 16 C dX10_refusalOfTry_16 rfl rfl ?_
      refine v_iload 17 C dX10_refusalOfTry_17 rfl ?_
      refine v_callV (st := []) 19 C [.int x4] lm_X10_105 ly_X10_isCell (hB 0 _ rfl) (by decide) dX10_refusalOfTry_19 rfl (by decide) rfl (Nat.le_of_ble_eq_true rfl) (fun o1 h1 => m_X10_isCell k hB x4 s4 o1 h1) hf (fun v5 s6 hf => ?_)
      refine v_if_ne (tgt := 27) 22 C dX10_refusalOfTry_22 (by decide) hf (fun hf => ?_) (fun hf => ?_)
      · refine v_aload_n 27 C dX10_refusalOfTry_27 rfl rfl ?_
        refine v_iload_n 28 C dX10_refusalOfTry_28 rfl rfl ?_
        refine v_callV (st := []) 29 C [.int x3] lm_X10_110 ly_X10_isTurn (hB 0 _ rfl) (by decide) dX10_refusalOfTry_29 rfl (by decide) rfl (Nat.le_of_ble_eq_true rfl) (fun o1 h1 => m_X10_isTurn k hB x3 s6 o1 h1) hf (fun v7 s8 hf => ?_)
        refine v_if_eq (tgt := 39) 32 C dX10_refusalOfTry_32 (by decide) hf (fun hf => ?_) (fun hf => ?_)
        · refine v_bipush (v := (-2)) 39 C dX10_refusalOfTry_39 (by decide) ?_
          exact v_iret 41 C rfl dX10_refusalOfTry_41 hf
        · refine v_iconst (v := 0) 35 C dX10_refusalOfTry_35 (by decide) ?_
          refine v_goto (tgt := 41) 36 C dX10_refusalOfTry_36 (by decide) ?_
          exact v_iret 41 C rfl dX10_refusalOfTry_41 hf
      · refine v_iconst (v := (-1)) 25 C dX10_refusalOfTry_25 (by decide) ?_
        exact v_iret 26 C rfl dX10_refusalOfTry_26 hf
theorem m_X10_refusalOfTry {l : Launch} {E : En} {L : List Nat} (k : Nat) (hB : Bk L sh_AuntsPuzzle k) (x1 : Int32) (x2 : Int32) (x3 : Int32) (x4 : Int32) (σ : Sg) (o : Int32 × Sg) (hf : f_X10_refusalOfTry k x1 x2 x3 x4 σ = some o) : Mi l yX10_refusalOfTry cX10_refusalOfTry 5 (some .int) (2) E L [.ref (E.2.1 (k)), .int x1, .int x2, .int x3, .int x4] σ o :=
  Mi.of RX10 rfl (by decide) (Nat.le_of_ble_eq_true rfl) (fun q hq C => by subst hq; exact k_X10_refusalOfTry_b0 C k hB x1 x2 x3 x4 σ hf)
def f_X10_refusalOfPlan (k : Nat) (x1 : Int32) (x2 : Int32) (σ : Sg) : Rs := p_call (f_X10_isRule k x1 σ) (fun v1 s2 => if v1 = 0 then (some ((-2), s2)) else (p_call (f_X10_isPerson k x2 s2) (fun v3 s4 => if v3 = 0 then (some ((-1), s4)) else (some (0, s4)))))
set_option maxRecDepth 100000 in
set_option maxHeartbeats 4000000 in
theorem k_X10_refusalOfPlan_b0 {q : Mc} {E : En} {L : List Nat} {o : Int32 × Sg} (C : Cx q E L cX10_refusalOfPlan 3 RX10 (some .int) (2)) (k : Nat) (hB : Bk L sh_AuntsPuzzle k) (x1 : Int32) (x2 : Int32) (σ : Sg) (hf : f_X10_refusalOfPlan k x1 x2 σ = some o) : Vx q E L 3 (some .int) o 0 [(0, .ref (E.2.1 (k))), (1, .int x1), (2, .int x2)] [] σ := by
  unfold f_X10_refusalOfPlan at hf
  refine v_aload_n 0 C dX10_refusalOfPlan_0 rfl rfl ?_
  refine v_iload_n 1 C dX10_refusalOfPlan_1 rfl rfl ?_
  refine v_callV (st := []) 2 C [.int x1] lm_X10_226 ly_X10_isRule (hB 0 _ rfl) (by decide) dX10_refusalOfPlan_2 rfl (by decide) rfl (Nat.le_of_ble_eq_true rfl) (fun o1 h1 => m_X10_isRule k hB x1 σ o1 h1) hf (fun v1 s2 hf => ?_)
  refine v_if_ne (tgt := 11) 5 C dX10_refusalOfPlan_5 (by decide) hf (fun hf => ?_) (fun hf => ?_)
  · refine v_aload_n 11 C dX10_refusalOfPlan_11 rfl rfl ?_
    refine v_iload_n 12 C dX10_refusalOfPlan_12 rfl rfl ?_
    refine v_callV (st := []) 13 C [.int x2] lm_X10_126 ly_X10_isPerson (hB 0 _ rfl) (by decide) dX10_refusalOfPlan_13 rfl (by decide) rfl (Nat.le_of_ble_eq_true rfl) (fun o1 h1 => m_X10_isPerson k hB x2 s2 o1 h1) hf (fun v3 s4 hf => ?_)
    refine v_if_eq (tgt := 23) 16 C dX10_refusalOfPlan_16 (by decide) hf (fun hf => ?_) (fun hf => ?_)
    · refine v_iconst (v := (-1)) 23 C dX10_refusalOfPlan_23 (by decide) ?_
      exact v_iret 24 C rfl dX10_refusalOfPlan_24 hf
    · refine v_iconst (v := 0) 19 C dX10_refusalOfPlan_19 (by decide) ?_
      refine v_goto (tgt := 24) 20 C dX10_refusalOfPlan_20 (by decide) ?_
      exact v_iret 24 C rfl dX10_refusalOfPlan_24 hf
  · refine v_bipush (v := (-2)) 8 C dX10_refusalOfPlan_8 (by decide) ?_
    exact v_iret 10 C rfl dX10_refusalOfPlan_10 hf
theorem m_X10_refusalOfPlan {l : Launch} {E : En} {L : List Nat} (k : Nat) (hB : Bk L sh_AuntsPuzzle k) (x1 : Int32) (x2 : Int32) (σ : Sg) (o : Int32 × Sg) (hf : f_X10_refusalOfPlan k x1 x2 σ = some o) : Mi l yX10_refusalOfPlan cX10_refusalOfPlan 3 (some .int) (2) E L [.ref (E.2.1 (k)), .int x1, .int x2] σ o :=
  Mi.of RX10 rfl (by decide) (Nat.le_of_ble_eq_true rfl) (fun q hq C => by subst hq; exact k_X10_refusalOfPlan_b0 C k hB x1 x2 σ hf)
def f_X10_feed_b32 (k : Nat) (σ : Sg) : Rs := p_call (f_X10_refuse k (-6) σ) (fun v1 s2 => some (v1, s2))
set_option maxRecDepth 100000 in
set_option maxHeartbeats 4000000 in
theorem k_X10_feed_b32 {q : Mc} {E : En} {L : List Nat} {o : Int32 × Sg} (C : Cx q E L cX10_feed 4 RX10 (some .int) (2)) (k : Nat) (hB : Bk L sh_AuntsPuzzle k) (σ : Sg) (hf : f_X10_feed_b32 k σ = some o) : Vx q E L 4 (some .int) o 32 [(0, .ref (E.2.1 (k)))] [] σ := by
  unfold f_X10_feed_b32 at hf
  refine v_aload_n 32 C dX10_feed_32 rfl rfl ?_
  refine v_bipush (v := (-6)) 33 C dX10_feed_33 (by decide) ?_
  refine v_callV (st := []) 35 C [.int (-6)] lm_X10_83 ly_X10_refuse (hB 0 _ rfl) (by decide) dX10_feed_35 rfl (by decide) rfl (Nat.le_of_ble_eq_true rfl) (fun o1 h1 => m_X10_refuse k hB (-6) σ o1 h1) hf (fun v1 s2 hf => ?_)
  exact v_iret 38 C rfl dX10_feed_38 hf
def f_X10_feed (k : Nat) (x1 : Int32) (x2 : Int64) (σ : Sg) : Rs := if 1 ≤ x1 then (if 8 < x1 then (f_X10_feed_b32 k σ) else (if ((σ (k + 55) 1) + x1) ≤ 64 then (p_call (f_X7_take (k + 55) x1 x2 σ) (fun v1 s2 => some (s2 (k + 55) 1, s2))) else (f_X10_feed_b32 k σ))) else (p_call (f_X10_refuse k (-4) σ) (fun v3 s4 => some (v3, s4)))
set_option maxRecDepth 100000 in
set_option maxHeartbeats 4000000 in
theorem k_X10_feed_b0 {q : Mc} {E : En} {L : List Nat} {o : Int32 × Sg} (C : Cx q E L cX10_feed 4 RX10 (some .int) (2)) (k : Nat) (hB : Bk L sh_AuntsPuzzle k) (x1 : Int32) (x2 : Int64) (σ : Sg) (hf : f_X10_feed k x1 x2 σ = some o) : Vx q E L 4 (some .int) o 0 [(0, .ref (E.2.1 (k))), (1, .int x1), (2, .long x2)] [] σ := by
  unfold f_X10_feed at hf
  refine v_iload_n 0 C dX10_feed_0 rfl rfl ?_
  refine v_iconst (v := 1) 1 C dX10_feed_1 (by decide) ?_
  refine v_icmp_ge (tgt := 12) 2 C dX10_feed_2 (by decide) hf (fun hf => ?_) (fun hf => ?_)
  · refine v_iload_n 12 C dX10_feed_12 rfl rfl ?_
    refine v_bipush (v := 8) 13 C dX10_feed_13 (by decide) ?_
    refine v_icmp_gt (tgt := 32) 15 C dX10_feed_15 (by decide) hf (fun hf => ?_) (fun hf => ?_)
    · exact Vx.lv [0] rfl (k_X10_feed_b32 C k hB σ hf)
    · refine v_aload_n 18 C dX10_feed_18 rfl rfl ?_
      refine v_getR 19 C lk_X10_32 (hB 0 _ rfl) (by decide) rfl dX10_feed_19 ?_
      refine v_getI (dum := 0) 22 C lk_X10_87 ((hB.sub (sh' := sh_Tape) 55 rfl) 0 _ rfl) (by decide) rfl dX10_feed_22 ?_
      refine v_iload_n 25 C dX10_feed_25 rfl rfl ?_
      refine v_iadd 26 C dX10_feed_26 ?_
      refine v_bipush (v := 64) 27 C dX10_feed_27 (by decide) ?_
      refine v_icmp_le (tgt := 39) 29 C dX10_feed_29 (by decide) hf (fun hf => ?_) (fun hf => ?_)
      · refine v_aload_n 39 C dX10_feed_39 rfl rfl ?_
        refine v_getR 40 C lk_X10_32 (hB 0 _ rfl) (by decide) rfl dX10_feed_40 ?_
        refine v_iload_n 43 C dX10_feed_43 rfl rfl ?_
        refine v_lload_n 44 C dX10_feed_44 rfl rfl ?_
        refine v_callV (st := []) 45 C [.int x1, .long x2] lm_X10_90 ly_X7_take ((hB.sub (sh' := sh_Tape) 55 rfl) 0 _ rfl) (by decide) dX10_feed_45 rfl (by decide) rfl (Nat.le_of_ble_eq_true rfl) (fun o1 h1 => m_X7_take (k + 55) (hB.sub (sh' := sh_Tape) 55 rfl) x1 x2 σ o1 h1) hf (fun v1 s2 hf => ?_)
        refine v_aload_n 48 C dX10_feed_48 rfl rfl ?_
        refine v_getR 49 C lk_X10_32 (hB 0 _ rfl) (by decide) rfl dX10_feed_49 ?_
        refine v_getI (dum := 0) 52 C lk_X10_87 ((hB.sub (sh' := sh_Tape) 55 rfl) 0 _ rfl) (by decide) rfl dX10_feed_52 ?_
        exact v_iret 55 C rfl dX10_feed_55 hf
      · exact Vx.lv [0] rfl (k_X10_feed_b32 C k hB σ hf)
  · refine v_aload_n 5 C dX10_feed_5 rfl rfl ?_
    refine v_bipush (v := (-4)) 6 C dX10_feed_6 (by decide) ?_
    refine v_callV (st := []) 8 C [.int (-4)] lm_X10_83 ly_X10_refuse (hB 0 _ rfl) (by decide) dX10_feed_8 rfl (by decide) rfl (Nat.le_of_ble_eq_true rfl) (fun o1 h1 => m_X10_refuse k hB (-4) σ o1 h1) hf (fun v3 s4 hf => ?_)
    exact v_iret 11 C rfl dX10_feed_11 hf
theorem m_X10_feed {l : Launch} {E : En} {L : List Nat} (k : Nat) (hB : Bk L sh_AuntsPuzzle k) (x1 : Int32) (x2 : Int64) (σ : Sg) (o : Int32 × Sg) (hf : f_X10_feed k x1 x2 σ = some o) : Mi l yX10_feed cX10_feed 4 (some .int) (2) E L [.ref (E.2.1 (k)), .int x1, .long x2] σ o :=
  Mi.of RX10 rfl (by decide) (Nat.le_of_ble_eq_true rfl) (fun q hq C => by subst hq; exact k_X10_feed_b0 C k hB x1 x2 σ hf)
def f_X10_puzzle (k : Nat) (σ : Sg) : Rs := p_call (f_X3_copyFrom (k + 17) (k + 1) σ) (fun v1 s2 => p_call (f_X7_readInto (k + 55) (k + 17) s2) (fun v3 s4 => p_put s4 (k + 55) 1 0 (fun s5 => if v3 ≤ 0 then (some (v3, s5)) else (p_call (f_X3_copyFrom (k + 1) (k + 17) s5) (fun v6 s7 => p_bo 0 (p_put s7 (k + 59) 2 0 (fun s8 => some (v3, s8))))))))
set_option maxRecDepth 100000 in
set_option maxHeartbeats 4000000 in
theorem k_X10_puzzle_b0 {q : Mc} {E : En} {L : List Nat} {o : Int32 × Sg} (C : Cx q E L cX10_puzzle 2 RX10 (some .int) (10)) (k : Nat) (hB : Bk L sh_AuntsPuzzle k) (σ : Sg) (hf : f_X10_puzzle k σ = some o) : Vx q E L 2 (some .int) o 0 [(0, .ref (E.2.1 (k)))] [] σ := by
  unfold f_X10_puzzle at hf
  refine v_aload_n 0 C dX10_puzzle_0 rfl rfl ?_
  refine v_getR 1 C lk_X10_16 (hB 0 _ rfl) (by decide) rfl dX10_puzzle_1 ?_
  refine v_aload_n 4 C dX10_puzzle_4 rfl rfl ?_
  refine v_getR 5 C lk_X10_10 (hB 0 _ rfl) (by decide) rfl dX10_puzzle_5 ?_
  refine v_callV (st := []) 8 C [.ref (E.2.1 (k + 1))] lm_X10_94 ly_X3_copyFrom ((hB.sub (sh' := sh_Game) 17 rfl) 0 _ rfl) (by decide) dX10_puzzle_8 rfl (by decide) rfl (Nat.le_of_ble_eq_true rfl) (fun o1 h1 => m_X3_copyFrom (k + 17) (k + 1) (hB.sub (sh' := sh_Game) 17 rfl) (hB.sub (sh' := sh_Game) 1 rfl)  σ o1 h1) hf (fun v1 s2 hf => ?_)
  refine v_aload_n 11 C dX10_puzzle_11 rfl rfl ?_
  refine v_getR 12 C lk_X10_32 (hB 0 _ rfl) (by decide) rfl dX10_puzzle_12 ?_
  refine v_aload_n 15 C dX10_puzzle_15 rfl rfl ?_
  refine v_getR 16 C lk_X10_16 (hB 0 _ rfl) (by decide) rfl dX10_puzzle_16 ?_
  refine v_callV (st := []) 19 C [.ref (E.2.1 (k + 17))] lm_X10_98 ly_X7_readInto ((hB.sub (sh' := sh_Tape) 55 rfl) 0 _ rfl) (by decide) dX10_puzzle_19 rfl (by decide) rfl (Nat.le_of_ble_eq_true rfl) (fun o1 h1 => m_X7_readInto (k + 55) (k + 17) (hB.sub (sh' := sh_Tape) 55 rfl) (hB.sub (sh' := sh_Game) 17 rfl)  s2 o1 h1) hf (fun v3 s4 hf => ?_)
  refine v_istore_n (lv' := [(0, .ref (E.2.1 (k))), (1, .int v3)]) 22 C dX10_puzzle_22 rfl (by decide) rfl rfl ?_
  refine v_aload_n 23 C dX10_puzzle_23 rfl rfl ?_
  refine v_getR 24 C lk_X10_32 (hB 0 _ rfl) (by decide) rfl dX10_puzzle_24 ?_
  refine v_iconst (v := 0) 27 C dX10_puzzle_27 (by decide) ?_
  refine v_putI 28 C lp_X10_87 ((hB.sub (sh' := sh_Tape) 55 rfl) 0 _ rfl) (by decide) rfl dX10_puzzle_28 hf (fun s5 hf => ?_)
  refine v_iload_n 31 C dX10_puzzle_31 rfl rfl ?_
  refine v_if_le (tgt := 54) 32 C dX10_puzzle_32 (by decide) hf (fun hf => ?_) (fun hf => ?_)
  · refine v_iload_n 54 C dX10_puzzle_54 rfl rfl ?_
    exact v_iret 55 C rfl dX10_puzzle_55 hf
  · refine v_aload_n 35 C dX10_puzzle_35 rfl rfl ?_
    refine v_getR 36 C lk_X10_10 (hB 0 _ rfl) (by decide) rfl dX10_puzzle_36 ?_
    refine v_aload_n 39 C dX10_puzzle_39 rfl rfl ?_
    refine v_getR 40 C lk_X10_16 (hB 0 _ rfl) (by decide) rfl dX10_puzzle_40 ?_
    refine v_callV (st := []) 43 C [.ref (E.2.1 (k + 17))] lm_X10_94 ly_X3_copyFrom ((hB.sub (sh' := sh_Game) 1 rfl) 0 _ rfl) (by decide) dX10_puzzle_43 rfl (by decide) rfl (Nat.le_of_ble_eq_true rfl) (fun o1 h1 => m_X3_copyFrom (k + 1) (k + 17) (hB.sub (sh' := sh_Game) 1 rfl) (hB.sub (sh' := sh_Game) 17 rfl)  s5 o1 h1) hf (fun v6 s7 hf => ?_)
    refine v_aload_n 46 C dX10_puzzle_46 rfl rfl ?_
    refine v_getR 47 C lk_X10_46 (hB 0 _ rfl) (by decide) rfl dX10_puzzle_47 ?_
    refine v_iconst (v := 0) 50 C dX10_puzzle_50 (by decide) ?_
    refine v_putZ 51 C lp_X10_102 ((hB.sub (sh' := sh_Search) 59 rfl) 0 _ rfl) (by decide) rfl dX10_puzzle_51 hf (fun s8 hf => ?_)
    refine v_iload_n 54 C dX10_puzzle_54 rfl rfl ?_
    exact v_iret 55 C rfl dX10_puzzle_55 hf
theorem m_X10_puzzle {l : Launch} {E : En} {L : List Nat} (k : Nat) (hB : Bk L sh_AuntsPuzzle k) (σ : Sg) (o : Int32 × Sg) (hf : f_X10_puzzle k σ = some o) : Mi l yX10_puzzle cX10_puzzle 2 (some .int) (10) E L [.ref (E.2.1 (k))] σ o :=
  Mi.of RX10 rfl (by decide) (Nat.le_of_ble_eq_true rfl) (fun q hq C => by subst hq; exact k_X10_puzzle_b0 C k hB  σ hf)
def f_X10_side_b33 (k : Nat) (σ : Sg) : Rs := p_call (f_X10_refuse k (-2) σ) (fun v1 s2 => some (1000000000 - v1, s2))
set_option maxRecDepth 100000 in
set_option maxHeartbeats 4000000 in
theorem k_X10_side_b33 {q : Mc} {E : En} {L : List Nat} {o : Int32 × Sg} (C : Cx q E L cX10_side 4 RX10 (some .int) (2)) (k : Nat) (hB : Bk L sh_AuntsPuzzle k) (σ : Sg) (hf : f_X10_side_b33 k σ = some o) : Vx q E L 4 (some .int) o 33 [(0, .ref (E.2.1 (k)))] [] σ := by
  unfold f_X10_side_b33 at hf
  refine v_ldc 33 C co_X10_109 dX10_side_33 ?_
  refine v_aload_n 35 C dX10_side_35 rfl rfl ?_
  refine v_bipush (v := (-2)) 36 C dX10_side_36 (by decide) ?_
  refine v_callV (st := [.int 1000000000]) 38 C [.int (-2)] lm_X10_83 ly_X10_refuse (hB 0 _ rfl) (by decide) dX10_side_38 rfl (by decide) rfl (Nat.le_of_ble_eq_true rfl) (fun o1 h1 => m_X10_refuse k hB (-2) σ o1 h1) hf (fun v1 s2 hf => ?_)
  refine v_isub 41 C dX10_side_41 ?_
  exact v_iret 42 C rfl dX10_side_42 hf
def f_X10_side (k : Nat) (x1 : Int32) (x2 : Int32) (x3 : Int32) (σ : Sg) : Rs := p_call (f_X10_isCell k x1 σ) (fun v1 s2 => if v1 = 0 then (p_call (f_X10_refuse k (-1) s2) (fun v9 s10 => some (1000000000 - v9, s10))) else (p_call (f_X10_isTurn k x2 s2) (fun v3 s4 => if v3 = 0 then (f_X10_side_b33 k s4) else (p_call (f_X10_isTurn k x3 s4) (fun v5 s6 => if v5 = 0 then (f_X10_side_b33 k s6) else (p_call (f_X1_sideOf (k + 1 + 1) x1 x2 x3 s6) (fun v7 s8 => some (v7, s8))))))))
set_option maxRecDepth 100000 in
set_option maxHeartbeats 4000000 in
theorem k_X10_side_b0 {q : Mc} {E : En} {L : List Nat} {o : Int32 × Sg} (C : Cx q E L cX10_side 4 RX10 (some .int) (2)) (k : Nat) (hB : Bk L sh_AuntsPuzzle k) (x1 : Int32) (x2 : Int32) (x3 : Int32) (σ : Sg) (hf : f_X10_side k x1 x2 x3 σ = some o) : Vx q E L 4 (some .int) o 0 [(0, .ref (E.2.1 (k))), (1, .int x1), (2, .int x2), (3, .int x3)] [] σ := by
  unfold f_X10_side at hf
  refine v_aload_n 0 C dX10_side_0 rfl rfl ?_
  refine v_iload_n 1 C dX10_side_1 rfl rfl ?_
  refine v_callV (st := []) 2 C [.int x1] lm_X10_105 ly_X10_isCell (hB 0 _ rfl) (by decide) dX10_side_2 rfl (by decide) rfl (Nat.le_of_ble_eq_true rfl) (fun o1 h1 => m_X10_isCell k hB x1 σ o1 h1) hf (fun v1 s2 hf => ?_)
  refine v_if_ne (tgt := 17) 5 C dX10_side_5 (by decide) hf (fun hf => ?_) (fun hf => ?_)
  · refine v_aload_n 17 C dX10_side_17 rfl rfl ?_
    refine v_iload_n 18 C dX10_side_18 rfl rfl ?_
    refine v_callV (st := []) 19 C [.int x2] lm_X10_110 ly_X10_isTurn (hB 0 _ rfl) (by decide) dX10_side_19 rfl (by decide) rfl (Nat.le_of_ble_eq_true rfl) (fun o1 h1 => m_X10_isTurn k hB x2 s2 o1 h1) hf (fun v3 s4 hf => ?_)
    refine v_if_eq (tgt := 33) 22 C dX10_side_22 (by decide) hf (fun hf => ?_) (fun hf => ?_)
    · exact Vx.lv [0] rfl (k_X10_side_b33 C k hB s4 hf)
    · refine v_aload_n 25 C dX10_side_25 rfl rfl ?_
      refine v_iload_n 26 C dX10_side_26 rfl rfl ?_
      refine v_callV (st := []) 27 C [.int x3] lm_X10_110 ly_X10_isTurn (hB 0 _ rfl) (by decide) dX10_side_27 rfl (by decide) rfl (Nat.le_of_ble_eq_true rfl) (fun o1 h1 => m_X10_isTurn k hB x3 s4 o1 h1) hf (fun v5 s6 hf => ?_)
      refine v_if_ne (tgt := 43) 30 C dX10_side_30 (by decide) hf (fun hf => ?_) (fun hf => ?_)
      · refine v_aload_n 43 C dX10_side_43 rfl rfl ?_
        refine v_getR 44 C lk_X10_10 (hB 0 _ rfl) (by decide) rfl dX10_side_44 ?_
        refine v_getR 47 C lk_X10_113 ((hB.sub (sh' := sh_Game) 1 rfl) 0 _ rfl) (by decide) rfl dX10_side_47 ?_
        refine v_iload_n 50 C dX10_side_50 rfl rfl ?_
        refine v_iload_n 51 C dX10_side_51 rfl rfl ?_
        refine v_iload_n 52 C dX10_side_52 rfl rfl ?_
        refine v_callV (st := []) 53 C [.int x1, .int x2, .int x3] lm_X10_117 ly_X1_sideOf (((hB.sub (sh' := sh_Game) 1 rfl).sub (sh' := sh_Cut) 1 rfl) 0 _ rfl) (by decide) dX10_side_53 rfl (by decide) rfl (Nat.le_of_ble_eq_true rfl) (fun o1 h1 => m_X1_sideOf (k + 1 + 1) ((hB.sub (sh' := sh_Game) 1 rfl).sub (sh' := sh_Cut) 1 rfl) x1 x2 x3 s6 o1 h1) hf (fun v7 s8 hf => ?_)
        exact v_iret 56 C rfl dX10_side_56 hf
      · exact Vx.lv [0] rfl (k_X10_side_b33 C k hB s6 hf)
  · refine v_ldc 8 C co_X10_109 dX10_side_8 ?_
    refine v_aload_n 10 C dX10_side_10 rfl rfl ?_
    refine v_iconst (v := (-1)) 11 C dX10_side_11 (by decide) ?_
    refine v_callV (st := [.int 1000000000]) 12 C [.int (-1)] lm_X10_83 ly_X10_refuse (hB 0 _ rfl) (by decide) dX10_side_12 rfl (by decide) rfl (Nat.le_of_ble_eq_true rfl) (fun o1 h1 => m_X10_refuse k hB (-1) s2 o1 h1) hf (fun v9 s10 hf => ?_)
    refine v_isub 15 C dX10_side_15 ?_
    exact v_iret 16 C rfl dX10_side_16 hf
theorem m_X10_side {l : Launch} {E : En} {L : List Nat} (k : Nat) (hB : Bk L sh_AuntsPuzzle k) (x1 : Int32) (x2 : Int32) (x3 : Int32) (σ : Sg) (o : Int32 × Sg) (hf : f_X10_side k x1 x2 x3 σ = some o) : Mi l yX10_side cX10_side 4 (some .int) (2) E L [.ref (E.2.1 (k)), .int x1, .int x2, .int x3] σ o :=
  Mi.of RX10 rfl (by decide) (Nat.le_of_ble_eq_true rfl) (fun q hq C => by subst hq; exact k_X10_side_b0 C k hB x1 x2 x3 σ hf)
def f_X10_colour (k : Nat) (x1 : Int32) (σ : Sg) : Rs := p_call (f_X10_isCell k x1 σ) (fun v1 s2 => if v1 = 0 then (p_call (f_X10_refuse k (-1) s2) (fun v3 s4 => some (v3, s4))) else (p_rd s2 (k + 1 + 1 + 4) 16 x1 (fun v5 => some (v5, s2))))
set_option maxRecDepth 100000 in
set_option maxHeartbeats 4000000 in
theorem k_X10_colour_b0 {q : Mc} {E : En} {L : List Nat} {o : Int32 × Sg} (C : Cx q E L cX10_colour 2 RX10 (some .int) (2)) (k : Nat) (hB : Bk L sh_AuntsPuzzle k) (x1 : Int32) (σ : Sg) (hf : f_X10_colour k x1 σ = some o) : Vx q E L 2 (some .int) o 0 [(0, .ref (E.2.1 (k))), (1, .int x1)] [] σ := by
  unfold f_X10_colour at hf
  refine v_aload_n 0 C dX10_colour_0 rfl rfl ?_
  refine v_iload_n 1 C dX10_colour_1 rfl rfl ?_
  refine v_callV (st := []) 2 C [.int x1] lm_X10_105 ly_X10_isCell (hB 0 _ rfl) (by decide) dX10_colour_2 rfl (by decide) rfl (Nat.le_of_ble_eq_true rfl) (fun o1 h1 => m_X10_isCell k hB x1 σ o1 h1) hf (fun v1 s2 hf => ?_)
  refine v_if_eq (tgt := 23) 5 C dX10_colour_5 (by decide) hf (fun hf => ?_) (fun hf => ?_)
  · refine v_aload_n 23 C dX10_colour_23 rfl rfl ?_
    refine v_iconst (v := (-1)) 24 C dX10_colour_24 (by decide) ?_
    refine v_callV (st := []) 25 C [.int (-1)] lm_X10_83 ly_X10_refuse (hB 0 _ rfl) (by decide) dX10_colour_25 rfl (by decide) rfl (Nat.le_of_ble_eq_true rfl) (fun o1 h1 => m_X10_refuse k hB (-1) s2 o1 h1) hf (fun v3 s4 hf => ?_)
    exact v_iret 28 C rfl dX10_colour_28 hf
  · refine v_aload_n 8 C dX10_colour_8 rfl rfl ?_
    refine v_getR 9 C lk_X10_10 (hB 0 _ rfl) (by decide) rfl dX10_colour_9 ?_
    refine v_getR 12 C lk_X10_113 ((hB.sub (sh' := sh_Game) 1 rfl) 0 _ rfl) (by decide) rfl dX10_colour_12 ?_
    refine v_getR 15 C lk_X10_123 (((hB.sub (sh' := sh_Game) 1 rfl).sub (sh' := sh_Cut) 1 rfl) 0 _ rfl) (by decide) rfl dX10_colour_15 ?_
    refine v_iload_n 18 C dX10_colour_18 rfl rfl ?_
    refine v_iald 19 C (((hB.sub (sh' := sh_Game) 1 rfl).sub (sh' := sh_Cut) 1 rfl) 4 _ rfl) dX10_colour_19 hf (fun v5 hf => ?_)
    refine v_goto (tgt := 28) 20 C dX10_colour_20 (by decide) ?_
    exact v_iret 28 C rfl dX10_colour_28 hf
theorem m_X10_colour {l : Launch} {E : En} {L : List Nat} (k : Nat) (hB : Bk L sh_AuntsPuzzle k) (x1 : Int32) (σ : Sg) (o : Int32 × Sg) (hf : f_X10_colour k x1 σ = some o) : Mi l yX10_colour cX10_colour 2 (some .int) (2) E L [.ref (E.2.1 (k)), .int x1] σ o :=
  Mi.of RX10 rfl (by decide) (Nat.le_of_ble_eq_true rfl) (fun q hq C => by subst hq; exact k_X10_colour_b0 C k hB x1 σ hf)
def f_X10_person (k : Nat) (x1 : Int32) (x2 : Int32) (σ : Sg) : Rs := p_call (f_X10_isPerson k x1 σ) (fun v1 s2 => if v1 = 0 then (p_call (f_X10_refuse k (-1) s2) (fun v10 s11 => some (v10, s11))) else (if x2 = 0 then (p_rd s2 (k + 1 + 12 + 1) 6 x1 (fun v3 => some (v3, s2))) else (if x2 = 1 then (p_rd s2 (k + 1 + 12 + 2) 6 x1 (fun v4 => some (v4, s2))) else (if x2 = 2 then (p_call (f_X0_laidBy (k + 1 + 6) x1 s2) (fun v5 s6 => some (v5, s6))) else (if x2 = 3 then (p_rd s2 (k + 1 + 12 + 3) 6 x1 (fun v7 => some (v7, s2))) else (p_call (f_X10_refuse k (-2) s2) (fun v8 s9 => some (v8, s9))))))))
set_option maxRecDepth 100000 in
set_option maxHeartbeats 4000000 in
theorem k_X10_person_b0 {q : Mc} {E : En} {L : List Nat} {o : Int32 × Sg} (C : Cx q E L cX10_person 3 RX10 (some .int) (3)) (k : Nat) (hB : Bk L sh_AuntsPuzzle k) (x1 : Int32) (x2 : Int32) (σ : Sg) (hf : f_X10_person k x1 x2 σ = some o) : Vx q E L 3 (some .int) o 0 [(0, .ref (E.2.1 (k))), (1, .int x1), (2, .int x2)] [] σ := by
  unfold f_X10_person at hf
  refine v_aload_n 0 C dX10_person_0 rfl rfl ?_
  refine v_iload_n 1 C dX10_person_1 rfl rfl ?_
  refine v_callV (st := []) 2 C [.int x1] lm_X10_126 ly_X10_isPerson (hB 0 _ rfl) (by decide) dX10_person_2 rfl (by decide) rfl (Nat.le_of_ble_eq_true rfl) (fun o1 h1 => m_X10_isPerson k hB x1 σ o1 h1) hf (fun v1 s2 hf => ?_)
  refine v_if_ne (tgt := 14) 5 C dX10_person_5 (by decide) hf (fun hf => ?_) (fun hf => ?_)
  · refine v_iload_n 14 C dX10_person_14 rfl rfl ?_
    refine v_case (v := 0) hf (fun hx hf => ?_) (fun hn0 hf => ?_)
    · refine v_tabIn (tgt := 44) 15 C hx dX10_person_15 (by decide) rfl (by decide) ?_
      refine v_aload_n 44 C dX10_person_44 rfl rfl ?_
      refine v_getR 45 C lk_X10_10 (hB 0 _ rfl) (by decide) rfl dX10_person_45 ?_
      refine v_getR 48 C lk_X10_129 ((hB.sub (sh' := sh_Game) 1 rfl) 0 _ rfl) (by decide) rfl dX10_person_48 ?_
      refine v_getR 51 C lk_X10_133 (((hB.sub (sh' := sh_Game) 1 rfl).sub (sh' := sh_People) 12 rfl) 0 _ rfl) (by decide) rfl dX10_person_51 ?_
      refine v_iload_n 54 C dX10_person_54 rfl rfl ?_
      refine v_iald 55 C (((hB.sub (sh' := sh_Game) 1 rfl).sub (sh' := sh_People) 12 rfl) 1 _ rfl) dX10_person_55 hf (fun v3 hf => ?_)
      exact v_iret 56 C rfl dX10_person_56 hf
    refine v_case (v := 1) hf (fun hx hf => ?_) (fun hn1 hf => ?_)
    · refine v_tabIn (tgt := 57) 15 C hx dX10_person_15 (by decide) rfl (by decide) ?_
      refine v_aload_n 57 C dX10_person_57 rfl rfl ?_
      refine v_getR 58 C lk_X10_10 (hB 0 _ rfl) (by decide) rfl dX10_person_58 ?_
      refine v_getR 61 C lk_X10_129 ((hB.sub (sh' := sh_Game) 1 rfl) 0 _ rfl) (by decide) rfl dX10_person_61 ?_
      refine v_getR 64 C lk_X10_138 (((hB.sub (sh' := sh_Game) 1 rfl).sub (sh' := sh_People) 12 rfl) 0 _ rfl) (by decide) rfl dX10_person_64 ?_
      refine v_iload_n 67 C dX10_person_67 rfl rfl ?_
      refine v_iald 68 C (((hB.sub (sh' := sh_Game) 1 rfl).sub (sh' := sh_People) 12 rfl) 2 _ rfl) dX10_person_68 hf (fun v4 hf => ?_)
      exact v_iret 69 C rfl dX10_person_69 hf
    refine v_case (v := 2) hf (fun hx hf => ?_) (fun hn2 hf => ?_)
    · refine v_tabIn (tgt := 70) 15 C hx dX10_person_15 (by decide) rfl (by decide) ?_
      refine v_aload_n 70 C dX10_person_70 rfl rfl ?_
      refine v_getR 71 C lk_X10_10 (hB 0 _ rfl) (by decide) rfl dX10_person_71 ?_
      refine v_getR 74 C lk_X10_141 ((hB.sub (sh' := sh_Game) 1 rfl) 0 _ rfl) (by decide) rfl dX10_person_74 ?_
      refine v_iload_n 77 C dX10_person_77 rfl rfl ?_
      refine v_callV (st := []) 78 C [.int x1] lm_X10_144 ly_X0_laidBy (((hB.sub (sh' := sh_Game) 1 rfl).sub (sh' := sh_Board) 6 rfl) 0 _ rfl) (by decide) dX10_person_78 rfl (by decide) rfl (Nat.le_of_ble_eq_true rfl) (fun o1 h1 => m_X0_laidBy (k + 1 + 6) ((hB.sub (sh' := sh_Game) 1 rfl).sub (sh' := sh_Board) 6 rfl) x1 s2 o1 h1) hf (fun v5 s6 hf => ?_)
      exact v_iret 81 C rfl dX10_person_81 hf
    refine v_case (v := 3) hf (fun hx hf => ?_) (fun hn3 hf => ?_)
    · refine v_tabIn (tgt := 82) 15 C hx dX10_person_15 (by decide) rfl (by decide) ?_
      refine v_aload_n 82 C dX10_person_82 rfl rfl ?_
      refine v_getR 83 C lk_X10_10 (hB 0 _ rfl) (by decide) rfl dX10_person_83 ?_
      refine v_getR 86 C lk_X10_129 ((hB.sub (sh' := sh_Game) 1 rfl) 0 _ rfl) (by decide) rfl dX10_person_86 ?_
      refine v_getR 89 C lk_X10_147 (((hB.sub (sh' := sh_Game) 1 rfl).sub (sh' := sh_People) 12 rfl) 0 _ rfl) (by decide) rfl dX10_person_89 ?_
      refine v_iload_n 92 C dX10_person_92 rfl rfl ?_
      refine v_iald 93 C (((hB.sub (sh' := sh_Game) 1 rfl).sub (sh' := sh_People) 12 rfl) 3 _ rfl) dX10_person_93 hf (fun v7 hf => ?_)
      exact v_iret 94 C rfl dX10_person_94 hf
    refine v_tabOut (tgt := 95) 15 C dX10_person_15 (by have g0 := lv_neT hn0 (show (0 : Int32).toInt = 0 from rfl); have g1 := lv_neT hn1 (show (1 : Int32).toInt = 1 from rfl); have g2 := lv_neT hn2 (show (2 : Int32).toInt = 2 from rfl); have g3 := lv_neT hn3 (show (3 : Int32).toInt = 3 from rfl); omega) (by decide) ?_
    refine v_aload_n 95 C dX10_person_95 rfl rfl ?_
    refine v_bipush (v := (-2)) 96 C dX10_person_96 (by decide) ?_
    refine v_callV (st := []) 98 C [.int (-2)] lm_X10_83 ly_X10_refuse (hB 0 _ rfl) (by decide) dX10_person_98 rfl (by decide) rfl (Nat.le_of_ble_eq_true rfl) (fun o1 h1 => m_X10_refuse k hB (-2) s2 o1 h1) hf (fun v8 s9 hf => ?_)
    exact v_iret 101 C rfl dX10_person_101 hf
  · refine v_aload_n 8 C dX10_person_8 rfl rfl ?_
    refine v_iconst (v := (-1)) 9 C dX10_person_9 (by decide) ?_
    refine v_callV (st := []) 10 C [.int (-1)] lm_X10_83 ly_X10_refuse (hB 0 _ rfl) (by decide) dX10_person_10 rfl (by decide) rfl (Nat.le_of_ble_eq_true rfl) (fun o1 h1 => m_X10_refuse k hB (-1) s2 o1 h1) hf (fun v10 s11 hf => ?_)
    exact v_iret 13 C rfl dX10_person_13 hf
theorem m_X10_person {l : Launch} {E : En} {L : List Nat} (k : Nat) (hB : Bk L sh_AuntsPuzzle k) (x1 : Int32) (x2 : Int32) (σ : Sg) (o : Int32 × Sg) (hf : f_X10_person k x1 x2 σ = some o) : Mi l yX10_person cX10_person 3 (some .int) (3) E L [.ref (E.2.1 (k)), .int x1, .int x2] σ o :=
  Mi.of RX10 rfl (by decide) (Nat.le_of_ble_eq_true rfl) (fun q hq C => by subst hq; exact k_X10_person_b0 C k hB x1 x2 σ hf)
def f_X10_laid_b23 (k : Nat) (σ : Sg) : Rs := p_call (f_X10_refuse k (-2) σ) (fun v1 s2 => some (v1, s2))
set_option maxRecDepth 100000 in
set_option maxHeartbeats 4000000 in
theorem k_X10_laid_b23 {q : Mc} {E : En} {L : List Nat} {o : Int32 × Sg} (C : Cx q E L cX10_laid 3 RX10 (some .int) (2)) (k : Nat) (hB : Bk L sh_AuntsPuzzle k) (σ : Sg) (hf : f_X10_laid_b23 k σ = some o) : Vx q E L 3 (some .int) o 23 [(0, .ref (E.2.1 (k)))] [] σ := by
  unfold f_X10_laid_b23 at hf
  refine v_aload_n 23 C dX10_laid_23 rfl rfl ?_
  refine v_bipush (v := (-2)) 24 C dX10_laid_24 (by decide) ?_
  refine v_callV (st := []) 26 C [.int (-2)] lm_X10_83 ly_X10_refuse (hB 0 _ rfl) (by decide) dX10_laid_26 rfl (by decide) rfl (Nat.le_of_ble_eq_true rfl) (fun o1 h1 => m_X10_refuse k hB (-2) σ o1 h1) hf (fun v1 s2 hf => ?_)
  exact v_iret 29 C rfl dX10_laid_29 hf
def f_X10_laid (k : Nat) (x1 : Int32) (x2 : Int32) (σ : Sg) : Rs := p_call (f_X10_isCell k x1 σ) (fun v1 s2 => if v1 = 0 then (p_call (f_X10_refuse k (-1) s2) (fun v8 s9 => some (v8, s9))) else (if x2 < 0 then (f_X10_laid_b23 k s2) else (if x2 ≤ 2 then (p_call (f_X0_isFilled (k + 1 + 6) x1 s2) (fun v3 s4 => if v3 = 0 then (some ((-9), s4)) else (if x2 = 0 then (p_rd s4 (k + 1 + 6 + 1) 16 x1 (fun v7 => some (v7, s4))) else (if x2 = 1 then (p_rd s4 (k + 1 + 6 + 2) 16 x1 (fun v6 => some (v6, s4))) else (p_rd s4 (k + 1 + 6 + 3) 16 x1 (fun v5 => some (v5, s4))))))) else (f_X10_laid_b23 k s2))))
set_option maxRecDepth 100000 in
set_option maxHeartbeats 4000000 in
theorem k_X10_laid_b0 {q : Mc} {E : En} {L : List Nat} {o : Int32 × Sg} (C : Cx q E L cX10_laid 3 RX10 (some .int) (2)) (k : Nat) (hB : Bk L sh_AuntsPuzzle k) (x1 : Int32) (x2 : Int32) (σ : Sg) (hf : f_X10_laid k x1 x2 σ = some o) : Vx q E L 3 (some .int) o 0 [(0, .ref (E.2.1 (k))), (1, .int x1), (2, .int x2)] [] σ := by
  unfold f_X10_laid at hf
  refine v_aload_n 0 C dX10_laid_0 rfl rfl ?_
  refine v_iload_n 1 C dX10_laid_1 rfl rfl ?_
  refine v_callV (st := []) 2 C [.int x1] lm_X10_105 ly_X10_isCell (hB 0 _ rfl) (by decide) dX10_laid_2 rfl (by decide) rfl (Nat.le_of_ble_eq_true rfl) (fun o1 h1 => m_X10_isCell k hB x1 σ o1 h1) hf (fun v1 s2 hf => ?_)
  refine v_if_ne (tgt := 14) 5 C dX10_laid_5 (by decide) hf (fun hf => ?_) (fun hf => ?_)
  · refine v_iload_n 14 C dX10_laid_14 rfl rfl ?_
    refine v_if_lt (tgt := 23) 15 C dX10_laid_15 (by decide) hf (fun hf => ?_) (fun hf => ?_)
    · exact Vx.lv [0] rfl (k_X10_laid_b23 C k hB s2 hf)
    · refine v_iload_n 18 C dX10_laid_18 rfl rfl ?_
      refine v_iconst (v := 2) 19 C dX10_laid_19 (by decide) ?_
      refine v_icmp_le (tgt := 30) 20 C dX10_laid_20 (by decide) hf (fun hf => ?_) (fun hf => ?_)
      · refine v_aload_n 30 C dX10_laid_30 rfl rfl ?_
        refine v_getR 31 C lk_X10_10 (hB 0 _ rfl) (by decide) rfl dX10_laid_31 ?_
        refine v_getR 34 C lk_X10_141 ((hB.sub (sh' := sh_Game) 1 rfl) 0 _ rfl) (by decide) rfl dX10_laid_34 ?_
        refine v_iload_n 37 C dX10_laid_37 rfl rfl ?_
        refine v_callV (st := []) 38 C [.int x1] lm_X10_150 ly_X0_isFilled (((hB.sub (sh' := sh_Game) 1 rfl).sub (sh' := sh_Board) 6 rfl) 0 _ rfl) (by decide) dX10_laid_38 rfl (by decide) rfl (Nat.le_of_ble_eq_true rfl) (fun o1 h1 => m_X0_isFilled (k + 1 + 6) ((hB.sub (sh' := sh_Game) 1 rfl).sub (sh' := sh_Board) 6 rfl) x1 s2 o1 h1) hf (fun v3 s4 hf => ?_)
        refine v_if_ne (tgt := 47) 41 C dX10_laid_41 (by decide) hf (fun hf => ?_) (fun hf => ?_)
        · refine v_iload_n 47 C dX10_laid_47 rfl rfl ?_
          refine v_if_ne (tgt := 64) 48 C dX10_laid_48 (by decide) hf (fun hf => ?_) (fun hf => ?_)
          · refine v_iload_n 64 C dX10_laid_64 rfl rfl ?_
            refine v_iconst (v := 1) 65 C dX10_laid_65 (by decide) ?_
            refine v_icmp_ne (tgt := 84) 66 C dX10_laid_66 (by decide) hf (fun hf => ?_) (fun hf => ?_)
            · refine v_aload_n 84 C dX10_laid_84 rfl rfl ?_
              refine v_getR 85 C lk_X10_10 (hB 0 _ rfl) (by decide) rfl dX10_laid_85 ?_
              refine v_getR 88 C lk_X10_141 ((hB.sub (sh' := sh_Game) 1 rfl) 0 _ rfl) (by decide) rfl dX10_laid_88 ?_
              refine v_getR 91 C lk_X10_159 (((hB.sub (sh' := sh_Game) 1 rfl).sub (sh' := sh_Board) 6 rfl) 0 _ rfl) (by decide) rfl dX10_laid_91 ?_
              refine v_iload_n 94 C dX10_laid_94 rfl rfl ?_
              refine v_iald 95 C (((hB.sub (sh' := sh_Game) 1 rfl).sub (sh' := sh_Board) 6 rfl) 3 _ rfl) dX10_laid_95 hf (fun v5 hf => ?_)
              exact v_iret 96 C rfl dX10_laid_96 hf
            · refine v_aload_n 69 C dX10_laid_69 rfl rfl ?_
              refine v_getR 70 C lk_X10_10 (hB 0 _ rfl) (by decide) rfl dX10_laid_70 ?_
              refine v_getR 73 C lk_X10_141 ((hB.sub (sh' := sh_Game) 1 rfl) 0 _ rfl) (by decide) rfl dX10_laid_73 ?_
              refine v_getR 76 C lk_X10_156 (((hB.sub (sh' := sh_Game) 1 rfl).sub (sh' := sh_Board) 6 rfl) 0 _ rfl) (by decide) rfl dX10_laid_76 ?_
              refine v_iload_n 79 C dX10_laid_79 rfl rfl ?_
              refine v_iald 80 C (((hB.sub (sh' := sh_Game) 1 rfl).sub (sh' := sh_Board) 6 rfl) 2 _ rfl) dX10_laid_80 hf (fun v6 hf => ?_)
              refine v_goto (tgt := 96) 81 C dX10_laid_81 (by decide) ?_
              exact v_iret 96 C rfl dX10_laid_96 hf
          · refine v_aload_n 51 C dX10_laid_51 rfl rfl ?_
            refine v_getR 52 C lk_X10_10 (hB 0 _ rfl) (by decide) rfl dX10_laid_52 ?_
            refine v_getR 55 C lk_X10_141 ((hB.sub (sh' := sh_Game) 1 rfl) 0 _ rfl) (by decide) rfl dX10_laid_55 ?_
            refine v_getR 58 C lk_X10_153 (((hB.sub (sh' := sh_Game) 1 rfl).sub (sh' := sh_Board) 6 rfl) 0 _ rfl) (by decide) rfl dX10_laid_58 ?_
            refine v_iload_n 61 C dX10_laid_61 rfl rfl ?_
            refine v_iald 62 C (((hB.sub (sh' := sh_Game) 1 rfl).sub (sh' := sh_Board) 6 rfl) 1 _ rfl) dX10_laid_62 hf (fun v7 hf => ?_)
            exact v_iret 63 C rfl dX10_laid_63 hf
        · refine v_bipush (v := (-9)) 44 C dX10_laid_44 (by decide) ?_
          exact v_iret 46 C rfl dX10_laid_46 hf
      · exact Vx.lv [0] rfl (k_X10_laid_b23 C k hB s2 hf)
  · refine v_aload_n 8 C dX10_laid_8 rfl rfl ?_
    refine v_iconst (v := (-1)) 9 C dX10_laid_9 (by decide) ?_
    refine v_callV (st := []) 10 C [.int (-1)] lm_X10_83 ly_X10_refuse (hB 0 _ rfl) (by decide) dX10_laid_10 rfl (by decide) rfl (Nat.le_of_ble_eq_true rfl) (fun o1 h1 => m_X10_refuse k hB (-1) s2 o1 h1) hf (fun v8 s9 hf => ?_)
    exact v_iret 13 C rfl dX10_laid_13 hf
theorem m_X10_laid {l : Launch} {E : En} {L : List Nat} (k : Nat) (hB : Bk L sh_AuntsPuzzle k) (x1 : Int32) (x2 : Int32) (σ : Sg) (o : Int32 × Sg) (hf : f_X10_laid k x1 x2 σ = some o) : Mi l yX10_laid cX10_laid 3 (some .int) (2) E L [.ref (E.2.1 (k)), .int x1, .int x2] σ o :=
  Mi.of RX10 rfl (by decide) (Nat.le_of_ble_eq_true rfl) (fun q hq C => by subst hq; exact k_X10_laid_b0 C k hB x1 x2 σ hf)
def f_X10_fits_b16 (k : Nat) (σ : Sg) : Rs := p_call (f_X10_refuse k (-1) σ) (fun v1 s2 => some (v1, s2))
set_option maxRecDepth 100000 in
set_option maxHeartbeats 4000000 in
theorem k_X10_fits_b16 {q : Mc} {E : En} {L : List Nat} {o : Int32 × Sg} (C : Cx q E L cX10_fits 4 RX10 (some .int) (4)) (k : Nat) (hB : Bk L sh_AuntsPuzzle k) (σ : Sg) (hf : f_X10_fits_b16 k σ = some o) : Vx q E L 4 (some .int) o 16 [(0, .ref (E.2.1 (k)))] [] σ := by
  unfold f_X10_fits_b16 at hf
  refine v_aload_n 16 C dX10_fits_16 rfl rfl ?_
  refine v_iconst (v := (-1)) 17 C dX10_fits_17 (by decide) ?_
  refine v_callV (st := []) 18 C [.int (-1)] lm_X10_83 ly_X10_refuse (hB 0 _ rfl) (by decide) dX10_fits_18 rfl (by decide) rfl (Nat.le_of_ble_eq_true rfl) (fun o1 h1 => m_X10_refuse k hB (-1) σ o1 h1) hf (fun v1 s2 hf => ?_)
  exact v_iret 21 C rfl dX10_fits_21 hf
def f_X10_fits (k : Nat) (x1 : Int32) (x2 : Int32) (x3 : Int32) (σ : Sg) : Rs := p_call (f_X10_isCell k x1 σ) (fun v1 s2 => if v1 = 0 then (f_X10_fits_b16 k s2) else (p_call (f_X10_isCell k x3 s2) (fun v3 s4 => if v3 = 0 then (f_X10_fits_b16 k s4) else (p_call (f_X10_isTurn k x2 s4) (fun v5 s6 => if v5 = 0 then (p_call (f_X10_refuse k (-2) s6) (fun v13 s14 => some (v13, s14))) else (p_call (f_X0_copyFrom (k + 49) (k + 1 + 6) s6) (fun v7 s8 => p_call (f_X0_takeAway (k + 49) x1 s8) (fun v9 s10 => p_call (f_X1_isFit (k + 1 + 1) (k + 49) x1 x2 x3 s10) (fun v11 s12 => if v11 = 0 then (some (0, s12)) else (some (1, s12)))))))))))
set_option maxRecDepth 100000 in
set_option maxHeartbeats 4000000 in
theorem k_X10_fits_b0 {q : Mc} {E : En} {L : List Nat} {o : Int32 × Sg} (C : Cx q E L cX10_fits 4 RX10 (some .int) (4)) (k : Nat) (hB : Bk L sh_AuntsPuzzle k) (x1 : Int32) (x2 : Int32) (x3 : Int32) (σ : Sg) (hf : f_X10_fits k x1 x2 x3 σ = some o) : Vx q E L 4 (some .int) o 0 [(0, .ref (E.2.1 (k))), (1, .int x1), (2, .int x2), (3, .int x3)] [] σ := by
  unfold f_X10_fits at hf
  refine v_aload_n 0 C dX10_fits_0 rfl rfl ?_
  refine v_iload_n 1 C dX10_fits_1 rfl rfl ?_
  refine v_callV (st := []) 2 C [.int x1] lm_X10_105 ly_X10_isCell (hB 0 _ rfl) (by decide) dX10_fits_2 rfl (by decide) rfl (Nat.le_of_ble_eq_true rfl) (fun o1 h1 => m_X10_isCell k hB x1 σ o1 h1) hf (fun v1 s2 hf => ?_)
  refine v_if_eq (tgt := 16) 5 C dX10_fits_5 (by decide) hf (fun hf => ?_) (fun hf => ?_)
  · exact Vx.lv [0] rfl (k_X10_fits_b16 C k hB s2 hf)
  · refine v_aload_n 8 C dX10_fits_8 rfl rfl ?_
    refine v_iload_n 9 C dX10_fits_9 rfl rfl ?_
    refine v_callV (st := []) 10 C [.int x3] lm_X10_105 ly_X10_isCell (hB 0 _ rfl) (by decide) dX10_fits_10 rfl (by decide) rfl (Nat.le_of_ble_eq_true rfl) (fun o1 h1 => m_X10_isCell k hB x3 s2 o1 h1) hf (fun v3 s4 hf => ?_)
    refine v_if_ne (tgt := 22) 13 C dX10_fits_13 (by decide) hf (fun hf => ?_) (fun hf => ?_)
    · refine v_aload_n 22 C dX10_fits_22 rfl rfl ?_
      refine v_iload_n 23 C dX10_fits_23 rfl rfl ?_
      refine v_callV (st := []) 24 C [.int x2] lm_X10_110 ly_X10_isTurn (hB 0 _ rfl) (by decide) dX10_fits_24 rfl (by decide) rfl (Nat.le_of_ble_eq_true rfl) (fun o1 h1 => m_X10_isTurn k hB x2 s4 o1 h1) hf (fun v5 s6 hf => ?_)
      refine v_if_ne (tgt := 37) 27 C dX10_fits_27 (by decide) hf (fun hf => ?_) (fun hf => ?_)
      · refine v_aload_n 37 C dX10_fits_37 rfl rfl ?_
        refine v_getR 38 C lk_X10_25 (hB 0 _ rfl) (by decide) rfl dX10_fits_38 ?_
        refine v_aload_n 41 C dX10_fits_41 rfl rfl ?_
        refine v_getR 42 C lk_X10_10 (hB 0 _ rfl) (by decide) rfl dX10_fits_42 ?_
        refine v_getR 45 C lk_X10_141 ((hB.sub (sh' := sh_Game) 1 rfl) 0 _ rfl) (by decide) rfl dX10_fits_45 ?_
        refine v_callV (st := []) 48 C [.ref (E.2.1 (k + 1 + 6))] lm_X10_162 ly_X0_copyFrom ((hB.sub (sh' := sh_Board) 49 rfl) 0 _ rfl) (by decide) dX10_fits_48 rfl (by decide) rfl (Nat.le_of_ble_eq_true rfl) (fun o1 h1 => m_X0_copyFrom (k + 49) (k + 1 + 6) (hB.sub (sh' := sh_Board) 49 rfl) ((hB.sub (sh' := sh_Game) 1 rfl).sub (sh' := sh_Board) 6 rfl)  s6 o1 h1) hf (fun v7 s8 hf => ?_)
        refine v_aload_n 51 C dX10_fits_51 rfl rfl ?_
        refine v_getR 52 C lk_X10_25 (hB 0 _ rfl) (by decide) rfl dX10_fits_52 ?_
        refine v_iload_n 55 C dX10_fits_55 rfl rfl ?_
        refine v_callV (st := []) 56 C [.int x1] lm_X10_165 ly_X0_takeAway ((hB.sub (sh' := sh_Board) 49 rfl) 0 _ rfl) (by decide) dX10_fits_56 rfl (by decide) rfl (Nat.le_of_ble_eq_true rfl) (fun o1 h1 => m_X0_takeAway (k + 49) (hB.sub (sh' := sh_Board) 49 rfl) x1 s8 o1 h1) hf (fun v9 s10 hf => ?_)
        refine v_aload_n 59 C dX10_fits_59 rfl rfl ?_
        refine v_getR 60 C lk_X10_10 (hB 0 _ rfl) (by decide) rfl dX10_fits_60 ?_
        refine v_getR 63 C lk_X10_113 ((hB.sub (sh' := sh_Game) 1 rfl) 0 _ rfl) (by decide) rfl dX10_fits_63 ?_
        refine v_aload_n 66 C dX10_fits_66 rfl rfl ?_
        refine v_getR 67 C lk_X10_25 (hB 0 _ rfl) (by decide) rfl dX10_fits_67 ?_
        refine v_iload_n 70 C dX10_fits_70 rfl rfl ?_
        refine v_iload_n 71 C dX10_fits_71 rfl rfl ?_
        refine v_iload_n 72 C dX10_fits_72 rfl rfl ?_
        refine v_callV (st := []) 73 C [.ref (E.2.1 (k + 49)), .int x1, .int x2, .int x3] lm_X10_169 ly_X1_isFit (((hB.sub (sh' := sh_Game) 1 rfl).sub (sh' := sh_Cut) 1 rfl) 0 _ rfl) (by decide) dX10_fits_73 rfl (by decide) rfl (Nat.le_of_ble_eq_true rfl) (fun o1 h1 => m_X1_isFit (k + 1 + 1) (k + 49) ((hB.sub (sh' := sh_Game) 1 rfl).sub (sh' := sh_Cut) 1 rfl) (hB.sub (sh' := sh_Board) 49 rfl) x1 x2 x3 s10 o1 h1) hf (fun v11 s12 hf => ?_)
        refine v_if_eq (tgt := 83) 76 C dX10_fits_76 (by decide) hf (fun hf => ?_) (fun hf => ?_)
        · refine v_iconst (v := 0) 83 C dX10_fits_83 (by decide) ?_
          exact v_iret 84 C rfl dX10_fits_84 hf
        · refine v_iconst (v := 1) 79 C dX10_fits_79 (by decide) ?_
          refine v_goto (tgt := 84) 80 C dX10_fits_80 (by decide) ?_
          exact v_iret 84 C rfl dX10_fits_84 hf
      · refine v_aload_n 30 C dX10_fits_30 rfl rfl ?_
        refine v_bipush (v := (-2)) 31 C dX10_fits_31 (by decide) ?_
        refine v_callV (st := []) 33 C [.int (-2)] lm_X10_83 ly_X10_refuse (hB 0 _ rfl) (by decide) dX10_fits_33 rfl (by decide) rfl (Nat.le_of_ble_eq_true rfl) (fun o1 h1 => m_X10_refuse k hB (-2) s6 o1 h1) hf (fun v13 s14 hf => ?_)
        exact v_iret 36 C rfl dX10_fits_36 hf
    · exact Vx.lv [0] rfl (k_X10_fits_b16 C k hB s4 hf)
theorem m_X10_fits {l : Launch} {E : En} {L : List Nat} (k : Nat) (hB : Bk L sh_AuntsPuzzle k) (x1 : Int32) (x2 : Int32) (x3 : Int32) (σ : Sg) (o : Int32 × Sg) (hf : f_X10_fits k x1 x2 x3 σ = some o) : Mi l yX10_fits cX10_fits 4 (some .int) (4) E L [.ref (E.2.1 (k)), .int x1, .int x2, .int x3] σ o :=
  Mi.of RX10 rfl (by decide) (Nat.le_of_ble_eq_true rfl) (fun q hq C => by subst hq; exact k_X10_fits_b0 C k hB x1 x2 x3 σ hf)
def f_X10_seconds_b35 (k : Nat) (x1 : Int32) (x2 : Int32) (x3 : Int32) (x4 : Int32) (x5 : Int32) (σ : Sg) : Rs := if x5 = 0 then (p_call (f_X1_kindOf (k + 1 + 1) (k + 1 + 6) x2 x3 x4 σ) (fun v1 s2 => p_call (f_X3_costOf (k + 1) x1 x2 x4 v1 s2) (fun v3 s4 => some (v3, s4)))) else (p_call (f_X10_refuse k x5 σ) (fun v5 s6 => some (v5, s6)))
set_option maxRecDepth 100000 in
set_option maxHeartbeats 4000000 in
theorem k_X10_seconds_b35 {q : Mc} {E : En} {L : List Nat} {o : Int32 × Sg} (C : Cx q E L cX10_seconds 6 RX10 (some .int) (4)) (k : Nat) (hB : Bk L sh_AuntsPuzzle k) (x1 : Int32) (x2 : Int32) (x3 : Int32) (x4 : Int32) (x5 : Int32) (σ : Sg) (hf : f_X10_seconds_b35 k x1 x2 x3 x4 x5 σ = some o) : Vx q E L 6 (some .int) o 35 [(0, .ref (E.2.1 (k))), (1, .int x1), (2, .int x2), (3, .int x3), (4, .int x4), (5, .int x5)] [] σ := by
  unfold f_X10_seconds_b35 at hf
  refine v_iload 35 C dX10_seconds_35 rfl ?_
  refine v_if_eq (tgt := 47) 37 C dX10_seconds_37 (by decide) hf (fun hf => ?_) (fun hf => ?_)
  · refine v_aload_n 47 C dX10_seconds_47 rfl rfl ?_
    refine v_getR 48 C lk_X10_10 (hB 0 _ rfl) (by decide) rfl dX10_seconds_48 ?_
    refine v_iload_n 51 C dX10_seconds_51 rfl rfl ?_
    refine v_iload_n 52 C dX10_seconds_52 rfl rfl ?_
    refine v_iload 53 C dX10_seconds_53 rfl ?_
    refine v_aload_n 55 C dX10_seconds_55 rfl rfl ?_
    refine v_getR 56 C lk_X10_10 (hB 0 _ rfl) (by decide) rfl dX10_seconds_56 ?_
    refine v_getR 59 C lk_X10_113 ((hB.sub (sh' := sh_Game) 1 rfl) 0 _ rfl) (by decide) rfl dX10_seconds_59 ?_
    refine v_aload_n 62 C dX10_seconds_62 rfl rfl ?_
    refine v_getR 63 C lk_X10_10 (hB 0 _ rfl) (by decide) rfl dX10_seconds_63 ?_
    refine v_getR 66 C lk_X10_141 ((hB.sub (sh' := sh_Game) 1 rfl) 0 _ rfl) (by decide) rfl dX10_seconds_66 ?_
    refine v_iload_n 69 C dX10_seconds_69 rfl rfl ?_
    refine v_iload_n 70 C dX10_seconds_70 rfl rfl ?_
    refine v_iload 71 C dX10_seconds_71 rfl ?_
    refine v_callV (st := [.int x4, .int x2, .int x1, .ref (E.2.1 (k + 1))]) 73 C [.ref (E.2.1 (k + 1 + 6)), .int x2, .int x3, .int x4] lm_X10_177 ly_X1_kindOf (((hB.sub (sh' := sh_Game) 1 rfl).sub (sh' := sh_Cut) 1 rfl) 0 _ rfl) (by decide) dX10_seconds_73 rfl (by decide) rfl (Nat.le_of_ble_eq_true rfl) (fun o1 h1 => m_X1_kindOf (k + 1 + 1) (k + 1 + 6) ((hB.sub (sh' := sh_Game) 1 rfl).sub (sh' := sh_Cut) 1 rfl) ((hB.sub (sh' := sh_Game) 1 rfl).sub (sh' := sh_Board) 6 rfl) x2 x3 x4 σ o1 h1) hf (fun v1 s2 hf => ?_)
    refine v_callV (st := []) 76 C [.int x1, .int x2, .int x4, .int v1] lm_X10_181 ly_X3_costOf ((hB.sub (sh' := sh_Game) 1 rfl) 0 _ rfl) (by decide) dX10_seconds_76 rfl (by decide) rfl (Nat.le_of_ble_eq_true rfl) (fun o1 h1 => m_X3_costOf (k + 1) (hB.sub (sh' := sh_Game) 1 rfl) x1 x2 x4 v1 s2 o1 h1) hf (fun v3 s4 hf => ?_)
    exact v_iret 79 C rfl dX10_seconds_79 hf
  · refine v_aload_n 40 C dX10_seconds_40 rfl rfl ?_
    refine v_iload 41 C dX10_seconds_41 rfl ?_
    refine v_callV (st := []) 43 C [.int x5] lm_X10_83 ly_X10_refuse (hB 0 _ rfl) (by decide) dX10_seconds_43 rfl (by decide) rfl (Nat.le_of_ble_eq_true rfl) (fun o1 h1 => m_X10_refuse k hB x5 σ o1 h1) hf (fun v5 s6 hf => ?_)
    exact v_iret 46 C rfl dX10_seconds_46 hf
def f_X10_seconds (k : Nat) (x1 : Int32) (x2 : Int32) (x3 : Int32) (x4 : Int32) (σ : Sg) : Rs := p_call (f_X10_refusalOfTry k x1 x2 x3 x4 σ) (fun v1 s2 => if v1 = 0 then (p_call (f_X0_isFilled (k + 1 + 6) x4 s2) (fun v3 s4 => if v3 = 0 then (f_X10_seconds_b35 k x1 x2 x3 x4 v1 s4) else (f_X10_seconds_b35 k x1 x2 x3 x4 (-3) s4))) else (f_X10_seconds_b35 k x1 x2 x3 x4 v1 s2))
set_option maxRecDepth 100000 in
set_option maxHeartbeats 4000000 in
theorem k_X10_seconds_b0 {q : Mc} {E : En} {L : List Nat} {o : Int32 × Sg} (C : Cx q E L cX10_seconds 6 RX10 (some .int) (4)) (k : Nat) (hB : Bk L sh_AuntsPuzzle k) (x1 : Int32) (x2 : Int32) (x3 : Int32) (x4 : Int32) (σ : Sg) (hf : f_X10_seconds k x1 x2 x3 x4 σ = some o) : Vx q E L 6 (some .int) o 0 [(0, .ref (E.2.1 (k))), (1, .int x1), (2, .int x2), (3, .int x3), (4, .int x4)] [] σ := by
  unfold f_X10_seconds at hf
  refine v_aload_n 0 C dX10_seconds_0 rfl rfl ?_
  refine v_iload_n 1 C dX10_seconds_1 rfl rfl ?_
  refine v_iload_n 2 C dX10_seconds_2 rfl rfl ?_
  refine v_iload_n 3 C dX10_seconds_3 rfl rfl ?_
  refine v_iload 4 C dX10_seconds_4 rfl ?_
  refine v_callV (st := []) 6 C [.int x1, .int x2, .int x3, .int x4] lm_X10_173 ly_X10_refusalOfTry (hB 0 _ rfl) (by decide) dX10_seconds_6 rfl (by decide) rfl (Nat.le_of_ble_eq_true rfl) (fun o1 h1 => m_X10_refusalOfTry k hB x1 x2 x3 x4 σ o1 h1) hf (fun v1 s2 hf => ?_)
  refine v_istore (lv' := [(0, .ref (E.2.1 (k))), (1, .int x1), (2, .int x2), (3, .int x3), (4, .int x4), (5, .int v1)]) 9 C dX10_seconds_9 (by decide) rfl rfl ?_
  refine v_iload 11 C dX10_seconds_11 rfl ?_
  refine v_if_ne (tgt := 35) 13 C dX10_seconds_13 (by decide) hf (fun hf => ?_) (fun hf => ?_)
  · exact Vx.lv [0, 1, 2, 3, 4, 5] rfl (k_X10_seconds_b35 C k hB x1 x2 x3 x4 v1 s2 hf)
  · refine v_aload_n 16 C dX10_seconds_16 rfl rfl ?_
    refine v_getR 17 C lk_X10_10 (hB 0 _ rfl) (by decide) rfl dX10_seconds_17 ?_
    refine v_getR 20 C lk_X10_141 ((hB.sub (sh' := sh_Game) 1 rfl) 0 _ rfl) (by decide) rfl dX10_seconds_20 ?_
    refine v_iload 23 C dX10_seconds_23 rfl ?_
    refine v_callV (st := []) 25 C [.int x4] lm_X10_150 ly_X0_isFilled (((hB.sub (sh' := sh_Game) 1 rfl).sub (sh' := sh_Board) 6 rfl) 0 _ rfl) (by decide) dX10_seconds_25 rfl (by decide) rfl (Nat.le_of_ble_eq_true rfl) (fun o1 h1 => m_X0_isFilled (k + 1 + 6) ((hB.sub (sh' := sh_Game) 1 rfl).sub (sh' := sh_Board) 6 rfl) x4 s2 o1 h1) hf (fun v3 s4 hf => ?_)
    refine v_if_eq (tgt := 35) 28 C dX10_seconds_28 (by decide) hf (fun hf => ?_) (fun hf => ?_)
    · exact Vx.lv [0, 1, 2, 3, 4, 5] rfl (k_X10_seconds_b35 C k hB x1 x2 x3 x4 v1 s4 hf)
    · refine v_bipush (v := (-3)) 31 C dX10_seconds_31 (by decide) ?_
      refine v_istore (lv' := [(0, .ref (E.2.1 (k))), (1, .int x1), (2, .int x2), (3, .int x3), (4, .int x4), (5, .int (-3))]) 33 C dX10_seconds_33 (by decide) rfl rfl ?_
      exact Vx.lv [0, 1, 2, 3, 4, 5] rfl (k_X10_seconds_b35 C k hB x1 x2 x3 x4 (-3) s4 hf)
theorem m_X10_seconds {l : Launch} {E : En} {L : List Nat} (k : Nat) (hB : Bk L sh_AuntsPuzzle k) (x1 : Int32) (x2 : Int32) (x3 : Int32) (x4 : Int32) (σ : Sg) (o : Int32 × Sg) (hf : f_X10_seconds k x1 x2 x3 x4 σ = some o) : Mi l yX10_seconds cX10_seconds 6 (some .int) (4) E L [.ref (E.2.1 (k)), .int x1, .int x2, .int x3, .int x4] σ o :=
  Mi.of RX10 rfl (by decide) (Nat.le_of_ble_eq_true rfl) (fun q hq C => by subst hq; exact k_X10_seconds_b0 C k hB x1 x2 x3 x4 σ hf)
def f_X10_tryIt_b134 (k : Nat) (x1 : Int32) (x2 : Int32) (x3 : Int32) (x4 : Int32) (x6 : Int32) (σ : Sg) : Rs := p_call (f_X0_put (k + 1 + 6) x4 x2 x3 x1 σ) (fun v1 s2 => some (x6, s2))
set_option maxRecDepth 100000 in
set_option maxHeartbeats 4000000 in
theorem k_X10_tryIt_b134 {q : Mc} {E : En} {L : List Nat} {o : Int32 × Sg} (C : Cx q E L cX10_tryIt 7 RX10 (some .int) (4)) (k : Nat) (hB : Bk L sh_AuntsPuzzle k) (x1 : Int32) (x2 : Int32) (x3 : Int32) (x4 : Int32) (x6 : Int32) (σ : Sg) (hf : f_X10_tryIt_b134 k x1 x2 x3 x4 x6 σ = some o) : Vx q E L 7 (some .int) o 134 [(0, .ref (E.2.1 (k))), (1, .int x1), (2, .int x2), (3, .int x3), (4, .int x4), (6, .int x6)] [] σ := by
  unfold f_X10_tryIt_b134 at hf
  refine v_aload_n 134 C dX10_tryIt_134 rfl rfl ?_
  refine v_getR 135 C lk_X10_10 (hB 0 _ rfl) (by decide) rfl dX10_tryIt_135 ?_
  refine v_getR 138 C lk_X10_141 ((hB.sub (sh' := sh_Game) 1 rfl) 0 _ rfl) (by decide) rfl dX10_tryIt_138 ?_
  refine v_iload 141 C dX10_tryIt_141 rfl ?_
  refine v_iload_n 143 C dX10_tryIt_143 rfl rfl ?_
  refine v_iload_n 144 C dX10_tryIt_144 rfl rfl ?_
  refine v_iload_n 145 C dX10_tryIt_145 rfl rfl ?_
  refine v_callV (st := []) 146 C [.int x4, .int x2, .int x3, .int x1] lm_X10_187 ly_X0_put (((hB.sub (sh' := sh_Game) 1 rfl).sub (sh' := sh_Board) 6 rfl) 0 _ rfl) (by decide) dX10_tryIt_146 rfl (by decide) rfl (Nat.le_of_ble_eq_true rfl) (fun o1 h1 => m_X0_put (k + 1 + 6) ((hB.sub (sh' := sh_Game) 1 rfl).sub (sh' := sh_Board) 6 rfl) x4 x2 x3 x1 σ o1 h1) hf (fun v1 s2 hf => ?_)
  refine v_iload 149 C dX10_tryIt_149 rfl ?_
  exact v_iret 151 C rfl dX10_tryIt_151 hf
def f_X10_tryIt_b49 (k : Nat) (x1 : Int32) (x2 : Int32) (x3 : Int32) (x4 : Int32) (x5 : Int32) (σ : Sg) : Rs := if x5 = 0 then (p_call (f_X1_kindOf (k + 1 + 1) (k + 1 + 6) x2 x3 x4 σ) (fun v1 s2 => p_rd s2 (k + 1 + 12 + 3) 6 x1 (fun v3 => p_call (f_X3_costOf (k + 1) x1 x2 x4 v1 s2) (fun v4 s5 => p_wr s5 (k + 1 + 12 + 3) 6 x1 (v3 + v4) (fun s6 => p_put s6 (k) 12 ((s6 (k) 12) + 1) (fun s7 => if v1 = 1 then (f_X10_tryIt_b134 k x1 x2 x3 x4 v1 s7) else (if v1 = 2 then (f_X10_tryIt_b134 k x1 x2 x3 x4 v1 s7) else (some (v1, s7))))))))) else (p_call (f_X10_refuse k x5 σ) (fun v8 s9 => some (v8, s9)))
set_option maxRecDepth 100000 in
set_option maxHeartbeats 4000000 in
theorem k_X10_tryIt_b49 {q : Mc} {E : En} {L : List Nat} {o : Int32 × Sg} (C : Cx q E L cX10_tryIt 7 RX10 (some .int) (4)) (k : Nat) (hB : Bk L sh_AuntsPuzzle k) (x1 : Int32) (x2 : Int32) (x3 : Int32) (x4 : Int32) (x5 : Int32) (σ : Sg) (hf : f_X10_tryIt_b49 k x1 x2 x3 x4 x5 σ = some o) : Vx q E L 7 (some .int) o 49 [(0, .ref (E.2.1 (k))), (1, .int x1), (2, .int x2), (3, .int x3), (4, .int x4), (5, .int x5)] [] σ := by
  unfold f_X10_tryIt_b49 at hf
  refine v_iload 49 C dX10_tryIt_49 rfl ?_
  refine v_if_eq (tgt := 61) 51 C dX10_tryIt_51 (by decide) hf (fun hf => ?_) (fun hf => ?_)
  · refine v_aload_n 61 C dX10_tryIt_61 rfl rfl ?_
    refine v_getR 62 C lk_X10_10 (hB 0 _ rfl) (by decide) rfl dX10_tryIt_62 ?_
    refine v_getR 65 C lk_X10_113 ((hB.sub (sh' := sh_Game) 1 rfl) 0 _ rfl) (by decide) rfl dX10_tryIt_65 ?_
    refine v_aload_n 68 C dX10_tryIt_68 rfl rfl ?_
    refine v_getR 69 C lk_X10_10 (hB 0 _ rfl) (by decide) rfl dX10_tryIt_69 ?_
    refine v_getR 72 C lk_X10_141 ((hB.sub (sh' := sh_Game) 1 rfl) 0 _ rfl) (by decide) rfl dX10_tryIt_72 ?_
    refine v_iload_n 75 C dX10_tryIt_75 rfl rfl ?_
    refine v_iload_n 76 C dX10_tryIt_76 rfl rfl ?_
    refine v_iload 77 C dX10_tryIt_77 rfl ?_
    refine v_callV (st := []) 79 C [.ref (E.2.1 (k + 1 + 6)), .int x2, .int x3, .int x4] lm_X10_177 ly_X1_kindOf (((hB.sub (sh' := sh_Game) 1 rfl).sub (sh' := sh_Cut) 1 rfl) 0 _ rfl) (by decide) dX10_tryIt_79 rfl (by decide) rfl (Nat.le_of_ble_eq_true rfl) (fun o1 h1 => m_X1_kindOf (k + 1 + 1) (k + 1 + 6) ((hB.sub (sh' := sh_Game) 1 rfl).sub (sh' := sh_Cut) 1 rfl) ((hB.sub (sh' := sh_Game) 1 rfl).sub (sh' := sh_Board) 6 rfl) x2 x3 x4 σ o1 h1) hf (fun v1 s2 hf => ?_)
    refine v_istore (lv' := [(0, .ref (E.2.1 (k))), (1, .int x1), (2, .int x2), (3, .int x3), (4, .int x4), (5, .int x5), (6, .int v1)]) 82 C dX10_tryIt_82 (by decide) rfl rfl ?_
    refine v_aload_n 84 C dX10_tryIt_84 rfl rfl ?_
    refine v_getR 85 C lk_X10_10 (hB 0 _ rfl) (by decide) rfl dX10_tryIt_85 ?_
    refine v_getR 88 C lk_X10_129 ((hB.sub (sh' := sh_Game) 1 rfl) 0 _ rfl) (by decide) rfl dX10_tryIt_88 ?_
    refine v_getR 91 C lk_X10_147 (((hB.sub (sh' := sh_Game) 1 rfl).sub (sh' := sh_People) 12 rfl) 0 _ rfl) (by decide) rfl dX10_tryIt_91 ?_
    refine v_iload_n 94 C dX10_tryIt_94 rfl rfl ?_
    refine v_dup2 95 C dX10_tryIt_95 rfl rfl ?_
    refine v_iald 96 C (((hB.sub (sh' := sh_Game) 1 rfl).sub (sh' := sh_People) 12 rfl) 3 _ rfl) dX10_tryIt_96 hf (fun v3 hf => ?_)
    refine v_aload_n 97 C dX10_tryIt_97 rfl rfl ?_
    refine v_getR 98 C lk_X10_10 (hB 0 _ rfl) (by decide) rfl dX10_tryIt_98 ?_
    refine v_iload_n 101 C dX10_tryIt_101 rfl rfl ?_
    refine v_iload_n 102 C dX10_tryIt_102 rfl rfl ?_
    refine v_iload 103 C dX10_tryIt_103 rfl ?_
    refine v_iload 105 C dX10_tryIt_105 rfl ?_
    refine v_callV (st := [.int v3, .int x1, .ref (E.2.1 (k + 1 + 12 + 3))]) 107 C [.int x1, .int x2, .int x4, .int v1] lm_X10_181 ly_X3_costOf ((hB.sub (sh' := sh_Game) 1 rfl) 0 _ rfl) (by decide) dX10_tryIt_107 rfl (by decide) rfl (Nat.le_of_ble_eq_true rfl) (fun o1 h1 => m_X3_costOf (k + 1) (hB.sub (sh' := sh_Game) 1 rfl) x1 x2 x4 v1 s2 o1 h1) hf (fun v4 s5 hf => ?_)
    refine v_iadd 110 C dX10_tryIt_110 ?_
    refine v_iast 111 C (((hB.sub (sh' := sh_Game) 1 rfl).sub (sh' := sh_People) 12 rfl) 3 _ rfl) dX10_tryIt_111 hf (fun s6 hf => ?_)
    refine v_aload_n 112 C dX10_tryIt_112 rfl rfl ?_
    refine v_dup 113 C dX10_tryIt_113 rfl ?_
    refine v_getI (dum := 0) 114 C lk_X10_79 (hB 0 _ rfl) (by decide) rfl dX10_tryIt_114 ?_
    refine v_iconst (v := 1) 117 C dX10_tryIt_117 (by decide) ?_
    refine v_iadd 118 C dX10_tryIt_118 ?_
    refine v_putI 119 C lp_X10_79 (hB 0 _ rfl) (by decide) rfl dX10_tryIt_119 hf (fun s7 hf => ?_)
    refine v_iload 122 C dX10_tryIt_122 rfl ?_
    refine v_iconst (v := 1) 124 C dX10_tryIt_124 (by decide) ?_
    refine v_icmp_eq (tgt := 134) 125 C dX10_tryIt_125 (by decide) hf (fun hf => ?_) (fun hf => ?_)
    · exact Vx.lv [0, 1, 2, 3, 4, 6] rfl (k_X10_tryIt_b134 C k hB x1 x2 x3 x4 v1 s7 hf)
    · refine v_iload 128 C dX10_tryIt_128 rfl ?_
      refine v_iconst (v := 2) 130 C dX10_tryIt_130 (by decide) ?_
      refine v_icmp_ne (tgt := 149) 131 C dX10_tryIt_131 (by decide) hf (fun hf => ?_) (fun hf => ?_)
      · refine v_iload 149 C dX10_tryIt_149 rfl ?_
        exact v_iret 151 C rfl dX10_tryIt_151 hf
      · exact Vx.lv [0, 1, 2, 3, 4, 6] rfl (k_X10_tryIt_b134 C k hB x1 x2 x3 x4 v1 s7 hf)
  · refine v_aload_n 54 C dX10_tryIt_54 rfl rfl ?_
    refine v_iload 55 C dX10_tryIt_55 rfl ?_
    refine v_callV (st := []) 57 C [.int x5] lm_X10_83 ly_X10_refuse (hB 0 _ rfl) (by decide) dX10_tryIt_57 rfl (by decide) rfl (Nat.le_of_ble_eq_true rfl) (fun o1 h1 => m_X10_refuse k hB x5 σ o1 h1) hf (fun v8 s9 hf => ?_)
    exact v_iret 60 C rfl dX10_tryIt_60 hf
def f_X10_tryIt_b45 (k : Nat) (x1 : Int32) (x2 : Int32) (x3 : Int32) (x4 : Int32) (σ : Sg) : Rs := f_X10_tryIt_b49 k x1 x2 x3 x4 (-3) σ
set_option maxRecDepth 100000 in
set_option maxHeartbeats 4000000 in
theorem k_X10_tryIt_b45 {q : Mc} {E : En} {L : List Nat} {o : Int32 × Sg} (C : Cx q E L cX10_tryIt 7 RX10 (some .int) (4)) (k : Nat) (hB : Bk L sh_AuntsPuzzle k) (x1 : Int32) (x2 : Int32) (x3 : Int32) (x4 : Int32) (σ : Sg) (hf : f_X10_tryIt_b45 k x1 x2 x3 x4 σ = some o) : Vx q E L 7 (some .int) o 45 [(0, .ref (E.2.1 (k))), (1, .int x1), (2, .int x2), (3, .int x3), (4, .int x4)] [] σ := by
  unfold f_X10_tryIt_b45 at hf
  refine v_bipush (v := (-3)) 45 C dX10_tryIt_45 (by decide) ?_
  refine v_istore (lv' := [(0, .ref (E.2.1 (k))), (1, .int x1), (2, .int x2), (3, .int x3), (4, .int x4), (5, .int (-3))]) 47 C dX10_tryIt_47 (by decide) rfl rfl ?_
  exact Vx.lv [0, 1, 2, 3, 4, 5] rfl (k_X10_tryIt_b49 C k hB x1 x2 x3 x4 (-3) σ hf)
def f_X10_tryIt (k : Nat) (x1 : Int32) (x2 : Int32) (x3 : Int32) (x4 : Int32) (σ : Sg) : Rs := p_call (f_X10_refusalOfTry k x1 x2 x3 x4 σ) (fun v1 s2 => if v1 = 0 then (p_call (f_X0_isFilled (k + 1 + 6) x4 s2) (fun v3 s4 => if v3 = 0 then (p_call (f_X0_isAway (k + 1 + 6) x2 s4) (fun v5 s6 => if v5 = 0 then (f_X10_tryIt_b49 k x1 x2 x3 x4 v1 s6) else (f_X10_tryIt_b45 k x1 x2 x3 x4 s6))) else (f_X10_tryIt_b45 k x1 x2 x3 x4 s4))) else (f_X10_tryIt_b49 k x1 x2 x3 x4 v1 s2))
set_option maxRecDepth 100000 in
set_option maxHeartbeats 4000000 in
theorem k_X10_tryIt_b0 {q : Mc} {E : En} {L : List Nat} {o : Int32 × Sg} (C : Cx q E L cX10_tryIt 7 RX10 (some .int) (4)) (k : Nat) (hB : Bk L sh_AuntsPuzzle k) (x1 : Int32) (x2 : Int32) (x3 : Int32) (x4 : Int32) (σ : Sg) (hf : f_X10_tryIt k x1 x2 x3 x4 σ = some o) : Vx q E L 7 (some .int) o 0 [(0, .ref (E.2.1 (k))), (1, .int x1), (2, .int x2), (3, .int x3), (4, .int x4)] [] σ := by
  unfold f_X10_tryIt at hf
  refine v_aload_n 0 C dX10_tryIt_0 rfl rfl ?_
  refine v_iload_n 1 C dX10_tryIt_1 rfl rfl ?_
  refine v_iload_n 2 C dX10_tryIt_2 rfl rfl ?_
  refine v_iload_n 3 C dX10_tryIt_3 rfl rfl ?_
  refine v_iload 4 C dX10_tryIt_4 rfl ?_
  refine v_callV (st := []) 6 C [.int x1, .int x2, .int x3, .int x4] lm_X10_173 ly_X10_refusalOfTry (hB 0 _ rfl) (by decide) dX10_tryIt_6 rfl (by decide) rfl (Nat.le_of_ble_eq_true rfl) (fun o1 h1 => m_X10_refusalOfTry k hB x1 x2 x3 x4 σ o1 h1) hf (fun v1 s2 hf => ?_)
  refine v_istore (lv' := [(0, .ref (E.2.1 (k))), (1, .int x1), (2, .int x2), (3, .int x3), (4, .int x4), (5, .int v1)]) 9 C dX10_tryIt_9 (by decide) rfl rfl ?_
  refine v_iload 11 C dX10_tryIt_11 rfl ?_
  refine v_if_ne (tgt := 49) 13 C dX10_tryIt_13 (by decide) hf (fun hf => ?_) (fun hf => ?_)
  · exact Vx.lv [0, 1, 2, 3, 4, 5] rfl (k_X10_tryIt_b49 C k hB x1 x2 x3 x4 v1 s2 hf)
  · refine v_aload_n 16 C dX10_tryIt_16 rfl rfl ?_
    refine v_getR 17 C lk_X10_10 (hB 0 _ rfl) (by decide) rfl dX10_tryIt_17 ?_
    refine v_getR 20 C lk_X10_141 ((hB.sub (sh' := sh_Game) 1 rfl) 0 _ rfl) (by decide) rfl dX10_tryIt_20 ?_
    refine v_iload 23 C dX10_tryIt_23 rfl ?_
    refine v_callV (st := []) 25 C [.int x4] lm_X10_150 ly_X0_isFilled (((hB.sub (sh' := sh_Game) 1 rfl).sub (sh' := sh_Board) 6 rfl) 0 _ rfl) (by decide) dX10_tryIt_25 rfl (by decide) rfl (Nat.le_of_ble_eq_true rfl) (fun o1 h1 => m_X0_isFilled (k + 1 + 6) ((hB.sub (sh' := sh_Game) 1 rfl).sub (sh' := sh_Board) 6 rfl) x4 s2 o1 h1) hf (fun v3 s4 hf => ?_)
    refine v_if_ne (tgt := 45) 28 C dX10_tryIt_28 (by decide) hf (fun hf => ?_) (fun hf => ?_)
    · exact Vx.lv [0, 1, 2, 3, 4] rfl (k_X10_tryIt_b45 C k hB x1 x2 x3 x4 s4 hf)
    · refine v_aload_n 31 C dX10_tryIt_31 rfl rfl ?_
      refine v_getR 32 C lk_X10_10 (hB 0 _ rfl) (by decide) rfl dX10_tryIt_32 ?_
      refine v_getR 35 C lk_X10_141 ((hB.sub (sh' := sh_Game) 1 rfl) 0 _ rfl) (by decide) rfl dX10_tryIt_35 ?_
      refine v_iload_n 38 C dX10_tryIt_38 rfl rfl ?_
      refine v_callV (st := []) 39 C [.int x2] lm_X10_184 ly_X0_isAway (((hB.sub (sh' := sh_Game) 1 rfl).sub (sh' := sh_Board) 6 rfl) 0 _ rfl) (by decide) dX10_tryIt_39 rfl (by decide) rfl (Nat.le_of_ble_eq_true rfl) (fun o1 h1 => m_X0_isAway (k + 1 + 6) ((hB.sub (sh' := sh_Game) 1 rfl).sub (sh' := sh_Board) 6 rfl) x2 s4 o1 h1) hf (fun v5 s6 hf => ?_)
      refine v_if_eq (tgt := 49) 42 C dX10_tryIt_42 (by decide) hf (fun hf => ?_) (fun hf => ?_)
      · exact Vx.lv [0, 1, 2, 3, 4, 5] rfl (k_X10_tryIt_b49 C k hB x1 x2 x3 x4 v1 s6 hf)
      · exact Vx.lv [0, 1, 2, 3, 4] rfl (k_X10_tryIt_b45 C k hB x1 x2 x3 x4 s6 hf)
theorem m_X10_tryIt {l : Launch} {E : En} {L : List Nat} (k : Nat) (hB : Bk L sh_AuntsPuzzle k) (x1 : Int32) (x2 : Int32) (x3 : Int32) (x4 : Int32) (σ : Sg) (o : Int32 × Sg) (hf : f_X10_tryIt k x1 x2 x3 x4 σ = some o) : Mi l yX10_tryIt cX10_tryIt 7 (some .int) (4) E L [.ref (E.2.1 (k)), .int x1, .int x2, .int x3, .int x4] σ o :=
  Mi.of RX10 rfl (by decide) (Nat.le_of_ble_eq_true rfl) (fun q hq C => by subst hq; exact k_X10_tryIt_b0 C k hB x1 x2 x3 x4 σ hf)
def f_X10_lift (k : Nat) (x1 : Int32) (σ : Sg) : Rs := p_call (f_X10_isCell k x1 σ) (fun v1 s2 => if v1 = 0 then (p_call (f_X10_refuse k (-1) s2) (fun v9 s10 => some (v9, s10))) else (p_call (f_X0_isFilled (k + 1 + 6) x1 s2) (fun v3 s4 => if v3 = 0 then (p_call (f_X10_refuse k (-3) s4) (fun v7 s8 => some (v7, s8))) else (p_call (f_X0_takeUp (k + 1 + 6) x1 s4) (fun v5 s6 => some (v5, s6))))))
set_option maxRecDepth 100000 in
set_option maxHeartbeats 4000000 in
theorem k_X10_lift_b0 {q : Mc} {E : En} {L : List Nat} {o : Int32 × Sg} (C : Cx q E L cX10_lift 2 RX10 (some .int) (2)) (k : Nat) (hB : Bk L sh_AuntsPuzzle k) (x1 : Int32) (σ : Sg) (hf : f_X10_lift k x1 σ = some o) : Vx q E L 2 (some .int) o 0 [(0, .ref (E.2.1 (k))), (1, .int x1)] [] σ := by
  unfold f_X10_lift at hf
  refine v_aload_n 0 C dX10_lift_0 rfl rfl ?_
  refine v_iload_n 1 C dX10_lift_1 rfl rfl ?_
  refine v_callV (st := []) 2 C [.int x1] lm_X10_105 ly_X10_isCell (hB 0 _ rfl) (by decide) dX10_lift_2 rfl (by decide) rfl (Nat.le_of_ble_eq_true rfl) (fun o1 h1 => m_X10_isCell k hB x1 σ o1 h1) hf (fun v1 s2 hf => ?_)
  refine v_if_ne (tgt := 14) 5 C dX10_lift_5 (by decide) hf (fun hf => ?_) (fun hf => ?_)
  · refine v_aload_n 14 C dX10_lift_14 rfl rfl ?_
    refine v_getR 15 C lk_X10_10 (hB 0 _ rfl) (by decide) rfl dX10_lift_15 ?_
    refine v_getR 18 C lk_X10_141 ((hB.sub (sh' := sh_Game) 1 rfl) 0 _ rfl) (by decide) rfl dX10_lift_18 ?_
    refine v_iload_n 21 C dX10_lift_21 rfl rfl ?_
    refine v_callV (st := []) 22 C [.int x1] lm_X10_150 ly_X0_isFilled (((hB.sub (sh' := sh_Game) 1 rfl).sub (sh' := sh_Board) 6 rfl) 0 _ rfl) (by decide) dX10_lift_22 rfl (by decide) rfl (Nat.le_of_ble_eq_true rfl) (fun o1 h1 => m_X0_isFilled (k + 1 + 6) ((hB.sub (sh' := sh_Game) 1 rfl).sub (sh' := sh_Board) 6 rfl) x1 s2 o1 h1) hf (fun v3 s4 hf => ?_)
    refine v_if_ne (tgt := 35) 25 C dX10_lift_25 (by decide) hf (fun hf => ?_) (fun hf => ?_)
    · refine v_aload_n 35 C dX10_lift_35 rfl rfl ?_
      refine v_getR 36 C lk_X10_10 (hB 0 _ rfl) (by decide) rfl dX10_lift_36 ?_
      refine v_getR 39 C lk_X10_141 ((hB.sub (sh' := sh_Game) 1 rfl) 0 _ rfl) (by decide) rfl dX10_lift_39 ?_
      refine v_iload_n 42 C dX10_lift_42 rfl rfl ?_
      refine v_callV (st := []) 43 C [.int x1] lm_X10_191 ly_X0_takeUp (((hB.sub (sh' := sh_Game) 1 rfl).sub (sh' := sh_Board) 6 rfl) 0 _ rfl) (by decide) dX10_lift_43 rfl (by decide) rfl (Nat.le_of_ble_eq_true rfl) (fun o1 h1 => m_X0_takeUp (k + 1 + 6) ((hB.sub (sh' := sh_Game) 1 rfl).sub (sh' := sh_Board) 6 rfl) x1 s4 o1 h1) hf (fun v5 s6 hf => ?_)
      exact v_iret 46 C rfl dX10_lift_46 hf
    · refine v_aload_n 28 C dX10_lift_28 rfl rfl ?_
      refine v_bipush (v := (-3)) 29 C dX10_lift_29 (by decide) ?_
      refine v_callV (st := []) 31 C [.int (-3)] lm_X10_83 ly_X10_refuse (hB 0 _ rfl) (by decide) dX10_lift_31 rfl (by decide) rfl (Nat.le_of_ble_eq_true rfl) (fun o1 h1 => m_X10_refuse k hB (-3) s4 o1 h1) hf (fun v7 s8 hf => ?_)
      exact v_iret 34 C rfl dX10_lift_34 hf
  · refine v_aload_n 8 C dX10_lift_8 rfl rfl ?_
    refine v_iconst (v := (-1)) 9 C dX10_lift_9 (by decide) ?_
    refine v_callV (st := []) 10 C [.int (-1)] lm_X10_83 ly_X10_refuse (hB 0 _ rfl) (by decide) dX10_lift_10 rfl (by decide) rfl (Nat.le_of_ble_eq_true rfl) (fun o1 h1 => m_X10_refuse k hB (-1) s2 o1 h1) hf (fun v9 s10 hf => ?_)
    exact v_iret 13 C rfl dX10_lift_13 hf
theorem m_X10_lift {l : Launch} {E : En} {L : List Nat} (k : Nat) (hB : Bk L sh_AuntsPuzzle k) (x1 : Int32) (σ : Sg) (o : Int32 × Sg) (hf : f_X10_lift k x1 σ = some o) : Mi l yX10_lift cX10_lift 2 (some .int) (2) E L [.ref (E.2.1 (k)), .int x1] σ o :=
  Mi.of RX10 rfl (by decide) (Nat.le_of_ble_eq_true rfl) (fun q hq C => by subst hq; exact k_X10_lift_b0 C k hB x1 σ hf)
def f_X10_pocket (k : Nat) (x1 : Int32) (σ : Sg) : Rs := p_call (f_X10_isCell k x1 σ) (fun v1 s2 => if v1 = 0 then (p_call (f_X10_refuse k (-1) s2) (fun v10 s11 => some (v10, s11))) else (p_call (f_X0_isAway (k + 1 + 6) x1 s2) (fun v3 s4 => if v3 = 0 then (p_wr s4 (k + 1 + 6 + 5) 16 x1 (nz 1) (fun s5 => p_call (f_X0_howManyLost (k + 1 + 6) s5) (fun v6 s7 => some (v6, s7)))) else (p_call (f_X10_refuse k (-3) s4) (fun v8 s9 => some (v8, s9))))))
set_option maxRecDepth 100000 in
set_option maxHeartbeats 4000000 in
theorem k_X10_pocket_b0 {q : Mc} {E : En} {L : List Nat} {o : Int32 × Sg} (C : Cx q E L cX10_pocket 2 RX10 (some .int) (2)) (k : Nat) (hB : Bk L sh_AuntsPuzzle k) (x1 : Int32) (σ : Sg) (hf : f_X10_pocket k x1 σ = some o) : Vx q E L 2 (some .int) o 0 [(0, .ref (E.2.1 (k))), (1, .int x1)] [] σ := by
  unfold f_X10_pocket at hf
  refine v_aload_n 0 C dX10_pocket_0 rfl rfl ?_
  refine v_iload_n 1 C dX10_pocket_1 rfl rfl ?_
  refine v_callV (st := []) 2 C [.int x1] lm_X10_105 ly_X10_isCell (hB 0 _ rfl) (by decide) dX10_pocket_2 rfl (by decide) rfl (Nat.le_of_ble_eq_true rfl) (fun o1 h1 => m_X10_isCell k hB x1 σ o1 h1) hf (fun v1 s2 hf => ?_)
  refine v_if_ne (tgt := 14) 5 C dX10_pocket_5 (by decide) hf (fun hf => ?_) (fun hf => ?_)
  · refine v_aload_n 14 C dX10_pocket_14 rfl rfl ?_
    refine v_getR 15 C lk_X10_10 (hB 0 _ rfl) (by decide) rfl dX10_pocket_15 ?_
    refine v_getR 18 C lk_X10_141 ((hB.sub (sh' := sh_Game) 1 rfl) 0 _ rfl) (by decide) rfl dX10_pocket_18 ?_
    refine v_iload_n 21 C dX10_pocket_21 rfl rfl ?_
    refine v_callV (st := []) 22 C [.int x1] lm_X10_184 ly_X0_isAway (((hB.sub (sh' := sh_Game) 1 rfl).sub (sh' := sh_Board) 6 rfl) 0 _ rfl) (by decide) dX10_pocket_22 rfl (by decide) rfl (Nat.le_of_ble_eq_true rfl) (fun o1 h1 => m_X0_isAway (k + 1 + 6) ((hB.sub (sh' := sh_Game) 1 rfl).sub (sh' := sh_Board) 6 rfl) x1 s2 o1 h1) hf (fun v3 s4 hf => ?_)
    refine v_if_eq (tgt := 35) 25 C dX10_pocket_25 (by decide) hf (fun hf => ?_) (fun hf => ?_)
    · refine v_aload_n 35 C dX10_pocket_35 rfl rfl ?_
      refine v_getR 36 C lk_X10_10 (hB 0 _ rfl) (by decide) rfl dX10_pocket_36 ?_
      refine v_getR 39 C lk_X10_141 ((hB.sub (sh' := sh_Game) 1 rfl) 0 _ rfl) (by decide) rfl dX10_pocket_39 ?_
      refine v_getR 42 C lk_X10_194 (((hB.sub (sh' := sh_Game) 1 rfl).sub (sh' := sh_Board) 6 rfl) 0 _ rfl) (by decide) rfl dX10_pocket_42 ?_
      refine v_iload_n 45 C dX10_pocket_45 rfl rfl ?_
      refine v_iconst (v := 1) 46 C dX10_pocket_46 (by decide) ?_
      refine v_zast 47 C (((hB.sub (sh' := sh_Game) 1 rfl).sub (sh' := sh_Board) 6 rfl) 5 _ rfl) dX10_pocket_47 hf (fun s5 hf => ?_)
      refine v_aload_n 48 C dX10_pocket_48 rfl rfl ?_
      refine v_getR 49 C lk_X10_10 (hB 0 _ rfl) (by decide) rfl dX10_pocket_49 ?_
      refine v_getR 52 C lk_X10_141 ((hB.sub (sh' := sh_Game) 1 rfl) 0 _ rfl) (by decide) rfl dX10_pocket_52 ?_
      refine v_callV (st := []) 55 C [] lm_X10_198 ly_X0_howManyLost (((hB.sub (sh' := sh_Game) 1 rfl).sub (sh' := sh_Board) 6 rfl) 0 _ rfl) (by decide) dX10_pocket_55 rfl (by decide) rfl (Nat.le_of_ble_eq_true rfl) (fun o1 h1 => m_X0_howManyLost (k + 1 + 6) ((hB.sub (sh' := sh_Game) 1 rfl).sub (sh' := sh_Board) 6 rfl)  s5 o1 h1) hf (fun v6 s7 hf => ?_)
      exact v_iret 58 C rfl dX10_pocket_58 hf
    · refine v_aload_n 28 C dX10_pocket_28 rfl rfl ?_
      refine v_bipush (v := (-3)) 29 C dX10_pocket_29 (by decide) ?_
      refine v_callV (st := []) 31 C [.int (-3)] lm_X10_83 ly_X10_refuse (hB 0 _ rfl) (by decide) dX10_pocket_31 rfl (by decide) rfl (Nat.le_of_ble_eq_true rfl) (fun o1 h1 => m_X10_refuse k hB (-3) s4 o1 h1) hf (fun v8 s9 hf => ?_)
      exact v_iret 34 C rfl dX10_pocket_34 hf
  · refine v_aload_n 8 C dX10_pocket_8 rfl rfl ?_
    refine v_iconst (v := (-1)) 9 C dX10_pocket_9 (by decide) ?_
    refine v_callV (st := []) 10 C [.int (-1)] lm_X10_83 ly_X10_refuse (hB 0 _ rfl) (by decide) dX10_pocket_10 rfl (by decide) rfl (Nat.le_of_ble_eq_true rfl) (fun o1 h1 => m_X10_refuse k hB (-1) s2 o1 h1) hf (fun v10 s11 hf => ?_)
    exact v_iret 13 C rfl dX10_pocket_13 hf
theorem m_X10_pocket {l : Launch} {E : En} {L : List Nat} (k : Nat) (hB : Bk L sh_AuntsPuzzle k) (x1 : Int32) (σ : Sg) (o : Int32 × Sg) (hf : f_X10_pocket k x1 σ = some o) : Mi l yX10_pocket cX10_pocket 2 (some .int) (2) E L [.ref (E.2.1 (k)), .int x1] σ o :=
  Mi.of RX10 rfl (by decide) (Nat.le_of_ble_eq_true rfl) (fun q hq C => by subst hq; exact k_X10_pocket_b0 C k hB x1 σ hf)
def f_X10_find (k : Nat) (x1 : Int32) (σ : Sg) : Rs := p_call (f_X10_isCell k x1 σ) (fun v1 s2 => if v1 = 0 then (p_call (f_X10_refuse k (-1) s2) (fun v9 s10 => some (v9, s10))) else (p_rd s2 (k + 1 + 6 + 5) 16 x1 (fun v3 => if v3 = 0 then (p_call (f_X10_refuse k (-3) s2) (fun v7 s8 => some (v7, s8))) else (p_wr s2 (k + 1 + 6 + 5) 16 x1 (nz 0) (fun s4 => p_call (f_X0_howManyLost (k + 1 + 6) s4) (fun v5 s6 => some (v5, s6)))))))
set_option maxRecDepth 100000 in
set_option maxHeartbeats 4000000 in
theorem k_X10_find_b0 {q : Mc} {E : En} {L : List Nat} {o : Int32 × Sg} (C : Cx q E L cX10_find 2 RX10 (some .int) (2)) (k : Nat) (hB : Bk L sh_AuntsPuzzle k) (x1 : Int32) (σ : Sg) (hf : f_X10_find k x1 σ = some o) : Vx q E L 2 (some .int) o 0 [(0, .ref (E.2.1 (k))), (1, .int x1)] [] σ := by
  unfold f_X10_find at hf
  refine v_aload_n 0 C dX10_find_0 rfl rfl ?_
  refine v_iload_n 1 C dX10_find_1 rfl rfl ?_
  refine v_callV (st := []) 2 C [.int x1] lm_X10_105 ly_X10_isCell (hB 0 _ rfl) (by decide) dX10_find_2 rfl (by decide) rfl (Nat.le_of_ble_eq_true rfl) (fun o1 h1 => m_X10_isCell k hB x1 σ o1 h1) hf (fun v1 s2 hf => ?_)
  refine v_if_ne (tgt := 14) 5 C dX10_find_5 (by decide) hf (fun hf => ?_) (fun hf => ?_)
  · refine v_aload_n 14 C dX10_find_14 rfl rfl ?_
    refine v_getR 15 C lk_X10_10 (hB 0 _ rfl) (by decide) rfl dX10_find_15 ?_
    refine v_getR 18 C lk_X10_141 ((hB.sub (sh' := sh_Game) 1 rfl) 0 _ rfl) (by decide) rfl dX10_find_18 ?_
    refine v_getR 21 C lk_X10_194 (((hB.sub (sh' := sh_Game) 1 rfl).sub (sh' := sh_Board) 6 rfl) 0 _ rfl) (by decide) rfl dX10_find_21 ?_
    refine v_iload_n 24 C dX10_find_24 rfl rfl ?_
    refine v_zald 25 C (((hB.sub (sh' := sh_Game) 1 rfl).sub (sh' := sh_Board) 6 rfl) 5 _ rfl) dX10_find_25 hf (fun v3 hf => ?_)
    refine v_if_ne (tgt := 36) 26 C dX10_find_26 (by decide) hf (fun hf => ?_) (fun hf => ?_)
    · refine v_aload_n 36 C dX10_find_36 rfl rfl ?_
      refine v_getR 37 C lk_X10_10 (hB 0 _ rfl) (by decide) rfl dX10_find_37 ?_
      refine v_getR 40 C lk_X10_141 ((hB.sub (sh' := sh_Game) 1 rfl) 0 _ rfl) (by decide) rfl dX10_find_40 ?_
      refine v_getR 43 C lk_X10_194 (((hB.sub (sh' := sh_Game) 1 rfl).sub (sh' := sh_Board) 6 rfl) 0 _ rfl) (by decide) rfl dX10_find_43 ?_
      refine v_iload_n 46 C dX10_find_46 rfl rfl ?_
      refine v_iconst (v := 0) 47 C dX10_find_47 (by decide) ?_
      refine v_zast 48 C (((hB.sub (sh' := sh_Game) 1 rfl).sub (sh' := sh_Board) 6 rfl) 5 _ rfl) dX10_find_48 hf (fun s4 hf => ?_)
      refine v_aload_n 49 C dX10_find_49 rfl rfl ?_
      refine v_getR 50 C lk_X10_10 (hB 0 _ rfl) (by decide) rfl dX10_find_50 ?_
      refine v_getR 53 C lk_X10_141 ((hB.sub (sh' := sh_Game) 1 rfl) 0 _ rfl) (by decide) rfl dX10_find_53 ?_
      refine v_callV (st := []) 56 C [] lm_X10_198 ly_X0_howManyLost (((hB.sub (sh' := sh_Game) 1 rfl).sub (sh' := sh_Board) 6 rfl) 0 _ rfl) (by decide) dX10_find_56 rfl (by decide) rfl (Nat.le_of_ble_eq_true rfl) (fun o1 h1 => m_X0_howManyLost (k + 1 + 6) ((hB.sub (sh' := sh_Game) 1 rfl).sub (sh' := sh_Board) 6 rfl)  s4 o1 h1) hf (fun v5 s6 hf => ?_)
      exact v_iret 59 C rfl dX10_find_59 hf
    · refine v_aload_n 29 C dX10_find_29 rfl rfl ?_
      refine v_bipush (v := (-3)) 30 C dX10_find_30 (by decide) ?_
      refine v_callV (st := []) 32 C [.int (-3)] lm_X10_83 ly_X10_refuse (hB 0 _ rfl) (by decide) dX10_find_32 rfl (by decide) rfl (Nat.le_of_ble_eq_true rfl) (fun o1 h1 => m_X10_refuse k hB (-3) s2 o1 h1) hf (fun v7 s8 hf => ?_)
      exact v_iret 35 C rfl dX10_find_35 hf
  · refine v_aload_n 8 C dX10_find_8 rfl rfl ?_
    refine v_iconst (v := (-1)) 9 C dX10_find_9 (by decide) ?_
    refine v_callV (st := []) 10 C [.int (-1)] lm_X10_83 ly_X10_refuse (hB 0 _ rfl) (by decide) dX10_find_10 rfl (by decide) rfl (Nat.le_of_ble_eq_true rfl) (fun o1 h1 => m_X10_refuse k hB (-1) s2 o1 h1) hf (fun v9 s10 hf => ?_)
    exact v_iret 13 C rfl dX10_find_13 hf
theorem m_X10_find {l : Launch} {E : En} {L : List Nat} (k : Nat) (hB : Bk L sh_AuntsPuzzle k) (x1 : Int32) (σ : Sg) (o : Int32 × Sg) (hf : f_X10_find k x1 σ = some o) : Mi l yX10_find cX10_find 2 (some .int) (2) E L [.ref (E.2.1 (k)), .int x1] σ o :=
  Mi.of RX10 rfl (by decide) (Nat.le_of_ble_eq_true rfl) (fun q hq C => by subst hq; exact k_X10_find_b0 C k hB x1 σ hf)
def f_X10_ways_b9 (k : Nat) (σ : Sg) : Rs := p_call (f_X10_refuse k (-2) σ) (fun v1 s2 => some (v1, s2))
set_option maxRecDepth 100000 in
set_option maxHeartbeats 4000000 in
theorem k_X10_ways_b9 {q : Mc} {E : En} {L : List Nat} {o : Int32 × Sg} (C : Cx q E L cX10_ways 2 RX10 (some .int) (50)) (k : Nat) (hB : Bk L sh_AuntsPuzzle k) (σ : Sg) (hf : f_X10_ways_b9 k σ = some o) : Vx q E L 2 (some .int) o 9 [(0, .ref (E.2.1 (k)))] [] σ := by
  unfold f_X10_ways_b9 at hf
  refine v_aload_n 9 C dX10_ways_9 rfl rfl ?_
  refine v_bipush (v := (-2)) 10 C dX10_ways_10 (by decide) ?_
  refine v_callV (st := []) 12 C [.int (-2)] lm_X10_83 ly_X10_refuse (hB 0 _ rfl) (by decide) dX10_ways_12 rfl (by decide) rfl (Nat.le_of_ble_eq_true rfl) (fun o1 h1 => m_X10_refuse k hB (-2) σ o1 h1) hf (fun v1 s2 hf => ?_)
  exact v_iret 15 C rfl dX10_ways_15 hf
def f_X10_ways (k : Nat) (x1 : Int32) (σ : Sg) : Rs := if x1 < 0 then (f_X10_ways_b9 k σ) else (if x1 ≤ 1 then (p_call (f_X6_goThrough (k + 59) (k + 1 + 1) σ) (fun v1 s2 => if x1 = 1 then (some (s2 (k + 59) 4, s2)) else (if (s2 (k + 59) 4) ≤ 20000 then (some (s2 (k + 59) 3, s2)) else (some ((-9), s2))))) else (f_X10_ways_b9 k σ))
set_option maxRecDepth 100000 in
set_option maxHeartbeats 4000000 in
theorem k_X10_ways_b0 {q : Mc} {E : En} {L : List Nat} {o : Int32 × Sg} (C : Cx q E L cX10_ways 2 RX10 (some .int) (50)) (k : Nat) (hB : Bk L sh_AuntsPuzzle k) (x1 : Int32) (σ : Sg) (hf : f_X10_ways k x1 σ = some o) : Vx q E L 2 (some .int) o 0 [(0, .ref (E.2.1 (k))), (1, .int x1)] [] σ := by
  unfold f_X10_ways at hf
  refine v_iload_n 0 C dX10_ways_0 rfl rfl ?_
  refine v_if_lt (tgt := 9) 1 C dX10_ways_1 (by decide) hf (fun hf => ?_) (fun hf => ?_)
  · exact Vx.lv [0] rfl (k_X10_ways_b9 C k hB σ hf)
  · refine v_iload_n 4 C dX10_ways_4 rfl rfl ?_
    refine v_iconst (v := 1) 5 C dX10_ways_5 (by decide) ?_
    refine v_icmp_le (tgt := 16) 6 C dX10_ways_6 (by decide) hf (fun hf => ?_) (fun hf => ?_)
    · refine v_aload_n 16 C dX10_ways_16 rfl rfl ?_
      refine v_getR 17 C lk_X10_46 (hB 0 _ rfl) (by decide) rfl dX10_ways_17 ?_
      refine v_aload_n 20 C dX10_ways_20 rfl rfl ?_
      refine v_getR 21 C lk_X10_10 (hB 0 _ rfl) (by decide) rfl dX10_ways_21 ?_
      refine v_getR 24 C lk_X10_113 ((hB.sub (sh' := sh_Game) 1 rfl) 0 _ rfl) (by decide) rfl dX10_ways_24 ?_
      refine v_callV (st := []) 27 C [.ref (E.2.1 (k + 1 + 1))] lm_X10_202 ly_X6_goThrough ((hB.sub (sh' := sh_Search) 59 rfl) 0 _ rfl) (by decide) dX10_ways_27 rfl (by decide) rfl (Nat.le_of_ble_eq_true rfl) (fun o1 h1 => m_X6_goThrough (k + 59) (k + 1 + 1) (hB.sub (sh' := sh_Search) 59 rfl) ((hB.sub (sh' := sh_Game) 1 rfl).sub (sh' := sh_Cut) 1 rfl)  σ o1 h1) hf (fun v1 s2 hf => ?_)
      refine v_iload_n 30 C dX10_ways_30 rfl rfl ?_
      refine v_iconst (v := 1) 31 C dX10_ways_31 (by decide) ?_
      refine v_icmp_ne (tgt := 43) 32 C dX10_ways_32 (by decide) hf (fun hf => ?_) (fun hf => ?_)
      · refine v_aload_n 43 C dX10_ways_43 rfl rfl ?_
        refine v_getR 44 C lk_X10_46 (hB 0 _ rfl) (by decide) rfl dX10_ways_44 ?_
        refine v_getI (dum := 0) 47 C lk_X10_206 ((hB.sub (sh' := sh_Search) 59 rfl) 0 _ rfl) (by decide) rfl dX10_ways_47 ?_
        refine v_sipush (v := 20000) 50 C dX10_ways_50 (by decide) ?_
        refine v_icmp_le (tgt := 61) 53 C dX10_ways_53 (by decide) hf (fun hf => ?_) (fun hf => ?_)
        · refine v_aload_n 61 C dX10_ways_61 rfl rfl ?_
          refine v_getR 62 C lk_X10_46 (hB 0 _ rfl) (by decide) rfl dX10_ways_62 ?_
          refine v_getI (dum := 0) 65 C lk_X10_209 ((hB.sub (sh' := sh_Search) 59 rfl) 0 _ rfl) (by decide) rfl dX10_ways_65 ?_
          exact v_iret 68 C rfl dX10_ways_68 hf
        · refine v_bipush (v := (-9)) 56 C dX10_ways_56 (by decide) ?_
          refine v_goto (tgt := 68) 58 C dX10_ways_58 (by decide) ?_
          exact v_iret 68 C rfl dX10_ways_68 hf
      · refine v_aload_n 35 C dX10_ways_35 rfl rfl ?_
        refine v_getR 36 C lk_X10_46 (hB 0 _ rfl) (by decide) rfl dX10_ways_36 ?_
        refine v_getI (dum := 0) 39 C lk_X10_206 ((hB.sub (sh' := sh_Search) 59 rfl) 0 _ rfl) (by decide) rfl dX10_ways_39 ?_
        exact v_iret 42 C rfl dX10_ways_42 hf
    · exact Vx.lv [0] rfl (k_X10_ways_b9 C k hB σ hf)
theorem m_X10_ways {l : Launch} {E : En} {L : List Nat} (k : Nat) (hB : Bk L sh_AuntsPuzzle k) (x1 : Int32) (σ : Sg) (o : Int32 × Sg) (hf : f_X10_ways k x1 σ = some o) : Mi l yX10_ways cX10_ways 2 (some .int) (50) E L [.ref (E.2.1 (k)), .int x1] σ o :=
  Mi.of RX10 rfl (by decide) (Nat.le_of_ble_eq_true rfl) (fun q hq C => by subst hq; exact k_X10_ways_b0 C k hB x1 σ hf)
def f_X10_first_b23 (k : Nat) (σ : Sg) : Rs := p_call (f_X10_refuse k (-2) σ) (fun v1 s2 => some (v1, s2))
set_option maxRecDepth 100000 in
set_option maxHeartbeats 4000000 in
theorem k_X10_first_b23 {q : Mc} {E : En} {L : List Nat} {o : Int32 × Sg} (C : Cx q E L cX10_first 3 RX10 (some .int) (50)) (k : Nat) (hB : Bk L sh_AuntsPuzzle k) (σ : Sg) (hf : f_X10_first_b23 k σ = some o) : Vx q E L 3 (some .int) o 23 [(0, .ref (E.2.1 (k)))] [] σ := by
  unfold f_X10_first_b23 at hf
  refine v_aload_n 23 C dX10_first_23 rfl rfl ?_
  refine v_bipush (v := (-2)) 24 C dX10_first_24 (by decide) ?_
  refine v_callV (st := []) 26 C [.int (-2)] lm_X10_83 ly_X10_refuse (hB 0 _ rfl) (by decide) dX10_first_26 rfl (by decide) rfl (Nat.le_of_ble_eq_true rfl) (fun o1 h1 => m_X10_refuse k hB (-2) σ o1 h1) hf (fun v1 s2 hf => ?_)
  exact v_iret 29 C rfl dX10_first_29 hf
def f_X10_first (k : Nat) (x1 : Int32) (x2 : Int32) (σ : Sg) : Rs := p_call (f_X10_isCell k x1 σ) (fun v1 s2 => if v1 = 0 then (p_call (f_X10_refuse k (-1) s2) (fun v7 s8 => some (v7, s8))) else (if x2 < 0 then (f_X10_first_b23 k s2) else (if x2 ≤ 1 then (p_call (f_X6_goThrough (k + 59) (k + 1 + 1) s2) (fun v3 s4 => if (s4 (k + 59) 3) = 0 then (some ((-9), s4)) else (if x2 = 0 then (p_rd s4 (k + 59 + 7 + 1) 16 x1 (fun v6 => some (v6, s4))) else (p_rd s4 (k + 59 + 7 + 2) 16 x1 (fun v5 => some (v5, s4)))))) else (f_X10_first_b23 k s2))))
set_option maxRecDepth 100000 in
set_option maxHeartbeats 4000000 in
theorem k_X10_first_b0 {q : Mc} {E : En} {L : List Nat} {o : Int32 × Sg} (C : Cx q E L cX10_first 3 RX10 (some .int) (50)) (k : Nat) (hB : Bk L sh_AuntsPuzzle k) (x1 : Int32) (x2 : Int32) (σ : Sg) (hf : f_X10_first k x1 x2 σ = some o) : Vx q E L 3 (some .int) o 0 [(0, .ref (E.2.1 (k))), (1, .int x1), (2, .int x2)] [] σ := by
  unfold f_X10_first at hf
  refine v_aload_n 0 C dX10_first_0 rfl rfl ?_
  refine v_iload_n 1 C dX10_first_1 rfl rfl ?_
  refine v_callV (st := []) 2 C [.int x1] lm_X10_105 ly_X10_isCell (hB 0 _ rfl) (by decide) dX10_first_2 rfl (by decide) rfl (Nat.le_of_ble_eq_true rfl) (fun o1 h1 => m_X10_isCell k hB x1 σ o1 h1) hf (fun v1 s2 hf => ?_)
  refine v_if_ne (tgt := 14) 5 C dX10_first_5 (by decide) hf (fun hf => ?_) (fun hf => ?_)
  · refine v_iload_n 14 C dX10_first_14 rfl rfl ?_
    refine v_if_lt (tgt := 23) 15 C dX10_first_15 (by decide) hf (fun hf => ?_) (fun hf => ?_)
    · exact Vx.lv [0] rfl (k_X10_first_b23 C k hB s2 hf)
    · refine v_iload_n 18 C dX10_first_18 rfl rfl ?_
      refine v_iconst (v := 1) 19 C dX10_first_19 (by decide) ?_
      refine v_icmp_le (tgt := 30) 20 C dX10_first_20 (by decide) hf (fun hf => ?_) (fun hf => ?_)
      · refine v_aload_n 30 C dX10_first_30 rfl rfl ?_
        refine v_getR 31 C lk_X10_46 (hB 0 _ rfl) (by decide) rfl dX10_first_31 ?_
        refine v_aload_n 34 C dX10_first_34 rfl rfl ?_
        refine v_getR 35 C lk_X10_10 (hB 0 _ rfl) (by decide) rfl dX10_first_35 ?_
        refine v_getR 38 C lk_X10_113 ((hB.sub (sh' := sh_Game) 1 rfl) 0 _ rfl) (by decide) rfl dX10_first_38 ?_
        refine v_callV (st := []) 41 C [.ref (E.2.1 (k + 1 + 1))] lm_X10_202 ly_X6_goThrough ((hB.sub (sh' := sh_Search) 59 rfl) 0 _ rfl) (by decide) dX10_first_41 rfl (by decide) rfl (Nat.le_of_ble_eq_true rfl) (fun o1 h1 => m_X6_goThrough (k + 59) (k + 1 + 1) (hB.sub (sh' := sh_Search) 59 rfl) ((hB.sub (sh' := sh_Game) 1 rfl).sub (sh' := sh_Cut) 1 rfl)  s2 o1 h1) hf (fun v3 s4 hf => ?_)
        refine v_aload_n 44 C dX10_first_44 rfl rfl ?_
        refine v_getR 45 C lk_X10_46 (hB 0 _ rfl) (by decide) rfl dX10_first_45 ?_
        refine v_getI (dum := 0) 48 C lk_X10_209 ((hB.sub (sh' := sh_Search) 59 rfl) 0 _ rfl) (by decide) rfl dX10_first_48 ?_
        refine v_if_ne (tgt := 57) 51 C dX10_first_51 (by decide) hf (fun hf => ?_) (fun hf => ?_)
        · refine v_iload_n 57 C dX10_first_57 rfl rfl ?_
          refine v_if_ne (tgt := 76) 58 C dX10_first_58 (by decide) hf (fun hf => ?_) (fun hf => ?_)
          · refine v_aload_n 76 C dX10_first_76 rfl rfl ?_
            refine v_getR 77 C lk_X10_46 (hB 0 _ rfl) (by decide) rfl dX10_first_77 ?_
            refine v_getR 80 C lk_X10_212 ((hB.sub (sh' := sh_Search) 59 rfl) 0 _ rfl) (by decide) rfl dX10_first_80 ?_
            refine v_getR 83 C lk_X10_156 (((hB.sub (sh' := sh_Search) 59 rfl).sub (sh' := sh_Board) 7 rfl) 0 _ rfl) (by decide) rfl dX10_first_83 ?_
            refine v_iload_n 86 C dX10_first_86 rfl rfl ?_
            refine v_iald 87 C (((hB.sub (sh' := sh_Search) 59 rfl).sub (sh' := sh_Board) 7 rfl) 2 _ rfl) dX10_first_87 hf (fun v5 hf => ?_)
            exact v_iret 88 C rfl dX10_first_88 hf
          · refine v_aload_n 61 C dX10_first_61 rfl rfl ?_
            refine v_getR 62 C lk_X10_46 (hB 0 _ rfl) (by decide) rfl dX10_first_62 ?_
            refine v_getR 65 C lk_X10_212 ((hB.sub (sh' := sh_Search) 59 rfl) 0 _ rfl) (by decide) rfl dX10_first_65 ?_
            refine v_getR 68 C lk_X10_153 (((hB.sub (sh' := sh_Search) 59 rfl).sub (sh' := sh_Board) 7 rfl) 0 _ rfl) (by decide) rfl dX10_first_68 ?_
            refine v_iload_n 71 C dX10_first_71 rfl rfl ?_
            refine v_iald 72 C (((hB.sub (sh' := sh_Search) 59 rfl).sub (sh' := sh_Board) 7 rfl) 1 _ rfl) dX10_first_72 hf (fun v6 hf => ?_)
            refine v_goto (tgt := 88) 73 C dX10_first_73 (by decide) ?_
            exact v_iret 88 C rfl dX10_first_88 hf
        · refine v_bipush (v := (-9)) 54 C dX10_first_54 (by decide) ?_
          exact v_iret 56 C rfl dX10_first_56 hf
      · exact Vx.lv [0] rfl (k_X10_first_b23 C k hB s2 hf)
  · refine v_aload_n 8 C dX10_first_8 rfl rfl ?_
    refine v_iconst (v := (-1)) 9 C dX10_first_9 (by decide) ?_
    refine v_callV (st := []) 10 C [.int (-1)] lm_X10_83 ly_X10_refuse (hB 0 _ rfl) (by decide) dX10_first_10 rfl (by decide) rfl (Nat.le_of_ble_eq_true rfl) (fun o1 h1 => m_X10_refuse k hB (-1) s2 o1 h1) hf (fun v7 s8 hf => ?_)
    exact v_iret 13 C rfl dX10_first_13 hf
theorem m_X10_first {l : Launch} {E : En} {L : List Nat} (k : Nat) (hB : Bk L sh_AuntsPuzzle k) (x1 : Int32) (x2 : Int32) (σ : Sg) (o : Int32 × Sg) (hf : f_X10_first k x1 x2 σ = some o) : Mi l yX10_first cX10_first 3 (some .int) (50) E L [.ref (E.2.1 (k)), .int x1, .int x2] σ o :=
  Mi.of RX10 rfl (by decide) (Nat.le_of_ble_eq_true rfl) (fun q hq C => by subst hq; exact k_X10_first_b0 C k hB x1 x2 σ hf)
