/-! printed by wip/whole/gen/gen.py: methods as pure functions, and that the machine does them -/
def f_X10_done (k : Nat) (x1 : Int32) (x2 : Int32) (σ : Sg) : Rs := p_call (f_X10_refusalOfPlan k x1 x2 σ) (fun v1 s2 => if v1 = 0 then (p_call (f_X9_wholeBy (k + 72) (k + 1) x1 x2 s2) (fun v5 s6 => some (v5, s6))) else (p_call (f_X10_refuse k v1 s2) (fun v3 s4 => some (v3, s4))))
set_option maxRecDepth 100000 in
set_option maxHeartbeats 4000000 in
theorem k_X10_done_b0 {q : Mc} {E : En} {L : List Nat} {o : Int32 × Sg} (C : Cx q E L cX10_done 4 RX10 (some .int) (7)) (k : Nat) (hB : Bk L sh_AuntsPuzzle k) (x1 : Int32) (x2 : Int32) (σ : Sg) (hf : f_X10_done k x1 x2 σ = some o) : Vx q E L 4 (some .int) o 0 [(0, .ref (E.2.1 (k))), (1, .int x1), (2, .int x2)] [] σ := by
  unfold f_X10_done at hf
  refine v_aload_n 0 C dX10_done_0 rfl rfl ?_
  refine v_iload_n 1 C dX10_done_1 rfl rfl ?_
  refine v_iload_n 2 C dX10_done_2 rfl rfl ?_
  refine v_callV (st := []) 3 C [.int x1, .int x2] lm_X10_215 ly_X10_refusalOfPlan (hB 0 _ rfl) (by decide) dX10_done_3 rfl (by decide) rfl (Nat.le_of_ble_eq_true rfl) (fun o1 h1 => m_X10_refusalOfPlan k hB x1 x2 σ o1 h1) hf (fun v1 s2 hf => ?_)
  refine v_istore_n (lv' := [(0, .ref (E.2.1 (k))), (1, .int x1), (2, .int x2), (3, .int v1)]) 6 C dX10_done_6 rfl (by decide) rfl rfl ?_
  refine v_iload_n 7 C dX10_done_7 rfl rfl ?_
  refine v_if_ne (tgt := 27) 8 C dX10_done_8 (by decide) hf (fun hf => ?_) (fun hf => ?_)
  · refine v_aload_n 27 C dX10_done_27 rfl rfl ?_
    refine v_iload_n 28 C dX10_done_28 rfl rfl ?_
    refine v_callV (st := []) 29 C [.int v1] lm_X10_83 ly_X10_refuse (hB 0 _ rfl) (by decide) dX10_done_29 rfl (by decide) rfl (Nat.le_of_ble_eq_true rfl) (fun o1 h1 => m_X10_refuse k hB v1 s2 o1 h1) hf (fun v3 s4 hf => ?_)
    exact v_iret 32 C rfl dX10_done_32 hf
  · refine v_aload_n 11 C dX10_done_11 rfl rfl ?_
    refine v_getR 12 C lk_X10_53 (hB 0 _ rfl) (by decide) rfl dX10_done_12 ?_
    refine v_aload_n 15 C dX10_done_15 rfl rfl ?_
    refine v_getR 16 C lk_X10_10 (hB 0 _ rfl) (by decide) rfl dX10_done_16 ?_
    refine v_iload_n 19 C dX10_done_19 rfl rfl ?_
    refine v_iload_n 20 C dX10_done_20 rfl rfl ?_
    refine v_callV (st := []) 21 C [.ref (E.2.1 (k + 1)), .int x1, .int x2] lm_X10_219 ly_X9_wholeBy ((hB.sub (sh' := sh_Work) 72 rfl) 0 _ rfl) (by decide) dX10_done_21 rfl (by decide) rfl (Nat.le_of_ble_eq_true rfl) (fun o1 h1 => m_X9_wholeBy (k + 72) (k + 1) (hB.sub (sh' := sh_Work) 72 rfl) (hB.sub (sh' := sh_Game) 1 rfl) x1 x2 s2 o1 h1) hf (fun v5 s6 hf => ?_)
    refine v_goto (tgt := 32) 24 C dX10_done_24 (by decide) ?_
    exact v_iret 32 C rfl dX10_done_32 hf
theorem m_X10_done {l : Launch} {E : En} {L : List Nat} (k : Nat) (hB : Bk L sh_AuntsPuzzle k) (x1 : Int32) (x2 : Int32) (σ : Sg) (o : Int32 × Sg) (hf : f_X10_done k x1 x2 σ = some o) : Mi l yX10_done cX10_done 4 (some .int) (7) E L [.ref (E.2.1 (k)), .int x1, .int x2] σ o :=
  Mi.of RX10 rfl (by decide) (Nat.le_of_ble_eq_true rfl) (fun q hq C => by subst hq; exact k_X10_done_b0 C k hB x1 x2 σ hf)
def f_X10_half (k : Nat) (x1 : Int32) (x2 : Int32) (σ : Sg) : Rs := p_call (f_X10_refusalOfPlan k x1 x2 σ) (fun v1 s2 => if v1 = 0 then (p_call (f_X9_halfBy (k + 72) (k + 1) x1 x2 s2) (fun v5 s6 => some (v5, s6))) else (p_call (f_X10_refuse k v1 s2) (fun v3 s4 => some (v3, s4))))
set_option maxRecDepth 100000 in
set_option maxHeartbeats 4000000 in
theorem k_X10_half_b0 {q : Mc} {E : En} {L : List Nat} {o : Int32 × Sg} (C : Cx q E L cX10_half 4 RX10 (some .int) (7)) (k : Nat) (hB : Bk L sh_AuntsPuzzle k) (x1 : Int32) (x2 : Int32) (σ : Sg) (hf : f_X10_half k x1 x2 σ = some o) : Vx q E L 4 (some .int) o 0 [(0, .ref (E.2.1 (k))), (1, .int x1), (2, .int x2)] [] σ := by
  unfold f_X10_half at hf
  refine v_aload_n 0 C dX10_half_0 rfl rfl ?_
  refine v_iload_n 1 C dX10_half_1 rfl rfl ?_
  refine v_iload_n 2 C dX10_half_2 rfl rfl ?_
  refine v_callV (st := []) 3 C [.int x1, .int x2] lm_X10_215 ly_X10_refusalOfPlan (hB 0 _ rfl) (by decide) dX10_half_3 rfl (by decide) rfl (Nat.le_of_ble_eq_true rfl) (fun o1 h1 => m_X10_refusalOfPlan k hB x1 x2 σ o1 h1) hf (fun v1 s2 hf => ?_)
  refine v_istore_n (lv' := [(0, .ref (E.2.1 (k))), (1, .int x1), (2, .int x2), (3, .int v1)]) 6 C dX10_half_6 rfl (by decide) rfl rfl ?_
  refine v_iload_n 7 C dX10_half_7 rfl rfl ?_
  refine v_if_ne (tgt := 27) 8 C dX10_half_8 (by decide) hf (fun hf => ?_) (fun hf => ?_)
  · refine v_aload_n 27 C dX10_half_27 rfl rfl ?_
    refine v_iload_n 28 C dX10_half_28 rfl rfl ?_
    refine v_callV (st := []) 29 C [.int v1] lm_X10_83 ly_X10_refuse (hB 0 _ rfl) (by decide) dX10_half_29 rfl (by decide) rfl (Nat.le_of_ble_eq_true rfl) (fun o1 h1 => m_X10_refuse k hB v1 s2 o1 h1) hf (fun v3 s4 hf => ?_)
    exact v_iret 32 C rfl dX10_half_32 hf
  · refine v_aload_n 11 C dX10_half_11 rfl rfl ?_
    refine v_getR 12 C lk_X10_53 (hB 0 _ rfl) (by decide) rfl dX10_half_12 ?_
    refine v_aload_n 15 C dX10_half_15 rfl rfl ?_
    refine v_getR 16 C lk_X10_10 (hB 0 _ rfl) (by decide) rfl dX10_half_16 ?_
    refine v_iload_n 19 C dX10_half_19 rfl rfl ?_
    refine v_iload_n 20 C dX10_half_20 rfl rfl ?_
    refine v_callV (st := []) 21 C [.ref (E.2.1 (k + 1)), .int x1, .int x2] lm_X10_223 ly_X9_halfBy ((hB.sub (sh' := sh_Work) 72 rfl) 0 _ rfl) (by decide) dX10_half_21 rfl (by decide) rfl (Nat.le_of_ble_eq_true rfl) (fun o1 h1 => m_X9_halfBy (k + 72) (k + 1) (hB.sub (sh' := sh_Work) 72 rfl) (hB.sub (sh' := sh_Game) 1 rfl) x1 x2 s2 o1 h1) hf (fun v5 s6 hf => ?_)
    refine v_goto (tgt := 32) 24 C dX10_half_24 (by decide) ?_
    exact v_iret 32 C rfl dX10_half_32 hf
theorem m_X10_half {l : Launch} {E : En} {L : List Nat} (k : Nat) (hB : Bk L sh_AuntsPuzzle k) (x1 : Int32) (x2 : Int32) (σ : Sg) (o : Int32 × Sg) (hf : f_X10_half k x1 x2 σ = some o) : Mi l yX10_half cX10_half 4 (some .int) (7) E L [.ref (E.2.1 (k)), .int x1, .int x2] σ o :=
  Mi.of RX10 rfl (by decide) (Nat.le_of_ble_eq_true rfl) (fun q hq C => by subst hq; exact k_X10_half_b0 C k hB x1 x2 σ hf)
def f_X10_bestRule_b67 (k : Nat) (r33 : Int32 → Int32 → Int32 → Int32 → Sg → Rs) (x1 : Int32) (x2 : Int32) (x3 : Int32) (x4 : Int32) (σ : Sg) : Rs := r33 x1 x2 x3 (x4 + 1) σ
set_option maxRecDepth 100000 in
set_option maxHeartbeats 4000000 in
theorem k_X10_bestRule_b67 {q : Mc} {E : En} {L : List Nat} {o : Int32 × Sg} (C : Cx q E L cX10_bestRule 6 RX10 (some .int) (7)) (k : Nat) (hB : Bk L sh_AuntsPuzzle k) (r33 : Int32 → Int32 → Int32 → Int32 → Sg → Rs) (hr33 : ∀ (x1 : Int32) (x2 : Int32) (x3 : Int32) (x4 : Int32) (σ : Sg), r33 x1 x2 x3 x4 σ = some o → Vx q E L 6 (some .int) o 33 [(0, .ref (E.2.1 (k))), (1, .int x1), (2, .int x2), (3, .int x3), (4, .int x4)] [] σ) (x1 : Int32) (x2 : Int32) (x3 : Int32) (x4 : Int32) (σ : Sg) (hf : f_X10_bestRule_b67 k r33 x1 x2 x3 x4 σ = some o) : Vx q E L 6 (some .int) o 67 [(0, .ref (E.2.1 (k))), (1, .int x1), (2, .int x2), (3, .int x3), (4, .int x4)] [] σ := by
  unfold f_X10_bestRule_b67 at hf
  refine v_iinc (v := x4 + 1) (lv' := [(0, .ref (E.2.1 (k))), (1, .int x1), (2, .int x2), (3, .int x3), (4, .int (x4 + 1))]) 67 C dX10_bestRule_67 rfl (by rfl) (by decide) rfl rfl ?_
  refine v_goto (tgt := 33) 70 C dX10_bestRule_70 (by decide) ?_
  exact Vx.lv [0, 1, 2, 3, 4] rfl (hr33 x1 x2 x3 (x4 + 1) σ hf)
def f_X10_bestRule_b33 (k : Nat)  : Nat → Int32 → Int32 → Int32 → Int32 → Sg → Rs
  | 0, _, _, _, _, _ => none
  | n + 1, x1, x2, x3, x4, σ => if 5 ≤ x4 then (some (x2, σ)) else (p_call (f_X9_wholeBy (k + 72) (k + 1) x4 x1 σ) (fun v1 s2 => if x3 ≤ v1 then (f_X10_bestRule_b67 k (f_X10_bestRule_b33 k n) x1 x2 x3 x4 s2) else (f_X10_bestRule_b67 k (f_X10_bestRule_b33 k n) x1 x4 v1 x4 s2)))
set_option maxRecDepth 100000 in
set_option maxHeartbeats 4000000 in
theorem k_X10_bestRule_b33 {q : Mc} {E : En} {L : List Nat} {o : Int32 × Sg} (C : Cx q E L cX10_bestRule 6 RX10 (some .int) (7)) (k : Nat) (hB : Bk L sh_AuntsPuzzle k) (n : Nat) : ∀ (x1 : Int32) (x2 : Int32) (x3 : Int32) (x4 : Int32) (σ : Sg), f_X10_bestRule_b33 k n x1 x2 x3 x4 σ = some o → Vx q E L 6 (some .int) o 33 [(0, .ref (E.2.1 (k))), (1, .int x1), (2, .int x2), (3, .int x3), (4, .int x4)] [] σ := by
  induction n with
  | zero => intro x1 x2 x3 x4 σ hf; cases (show (none : Rs) = some o from hf)
  | succ n ih =>
    intro x1 x2 x3 x4 σ hf
    rw [f_X10_bestRule_b33] at hf
    refine v_iload 33 C dX10_bestRule_33 rfl ?_
    refine v_iconst (v := 5) 35 C dX10_bestRule_35 (by decide) ?_
    refine v_icmp_ge (tgt := 73) 36 C dX10_bestRule_36 (by decide) hf (fun hf => ?_) (fun hf => ?_)
    · refine v_iload_n 73 C dX10_bestRule_73 rfl rfl ?_
      exact v_iret 74 C rfl dX10_bestRule_74 hf
    · refine v_aload_n 39 C dX10_bestRule_39 rfl rfl ?_
      refine v_getR 40 C lk_X10_53 (hB 0 _ rfl) (by decide) rfl dX10_bestRule_40 ?_
      refine v_aload_n 43 C dX10_bestRule_43 rfl rfl ?_
      refine v_getR 44 C lk_X10_10 (hB 0 _ rfl) (by decide) rfl dX10_bestRule_44 ?_
      refine v_iload 47 C dX10_bestRule_47 rfl ?_
      refine v_iload_n 49 C dX10_bestRule_49 rfl rfl ?_
      refine v_callV (st := []) 50 C [.ref (E.2.1 (k + 1)), .int x4, .int x1] lm_X10_219 ly_X9_wholeBy ((hB.sub (sh' := sh_Work) 72 rfl) 0 _ rfl) (by decide) dX10_bestRule_50 rfl (by decide) rfl (Nat.le_of_ble_eq_true rfl) (fun o1 h1 => m_X9_wholeBy (k + 72) (k + 1) (hB.sub (sh' := sh_Work) 72 rfl) (hB.sub (sh' := sh_Game) 1 rfl) x4 x1 σ o1 h1) hf (fun v1 s2 hf => ?_)
      refine v_istore (lv' := [(0, .ref (E.2.1 (k))), (1, .int x1), (2, .int x2), (3, .int x3), (4, .int x4), (5, .int v1)]) 53 C dX10_bestRule_53 (by decide) rfl rfl ?_
      refine v_iload 55 C dX10_bestRule_55 rfl ?_
      refine v_iload_n 57 C dX10_bestRule_57 rfl rfl ?_
      refine v_icmp_ge (tgt := 67) 58 C dX10_bestRule_58 (by decide) hf (fun hf => ?_) (fun hf => ?_)
      · exact Vx.lv [0, 1, 2, 3, 4] rfl (k_X10_bestRule_b67 C k hB (f_X10_bestRule_b33 k n) ih x1 x2 x3 x4 s2 hf)
      · refine v_iload 61 C dX10_bestRule_61 rfl ?_
        refine v_istore_n (lv' := [(0, .ref (E.2.1 (k))), (1, .int x1), (2, .int x2), (3, .int v1), (4, .int x4), (5, .int v1)]) 63 C dX10_bestRule_63 rfl (by decide) rfl rfl ?_
        refine v_iload 64 C dX10_bestRule_64 rfl ?_
        refine v_istore_n (lv' := [(0, .ref (E.2.1 (k))), (1, .int x1), (2, .int x4), (3, .int v1), (4, .int x4), (5, .int v1)]) 66 C dX10_bestRule_66 rfl (by decide) rfl rfl ?_
        exact Vx.lv [0, 1, 2, 3, 4] rfl (k_X10_bestRule_b67 C k hB (f_X10_bestRule_b33 k n) ih x1 x4 v1 x4 s2 hf)
def f_X10_bestRule (k : Nat) (x1 : Int32) (σ : Sg) : Rs := p_call (f_X10_isPerson k x1 σ) (fun v1 s2 => if v1 = 0 then (p_call (f_X10_refuse k (-1) s2) (fun v5 s6 => some (v5, s6))) else (p_call (f_X9_wholeBy (k + 72) (k + 1) 0 x1 s2) (fun v3 s4 => f_X10_bestRule_b33 k fu x1 0 v3 1 s4)))
set_option maxRecDepth 100000 in
set_option maxHeartbeats 4000000 in
theorem k_X10_bestRule_b0 {q : Mc} {E : En} {L : List Nat} {o : Int32 × Sg} (C : Cx q E L cX10_bestRule 6 RX10 (some .int) (7)) (k : Nat) (hB : Bk L sh_AuntsPuzzle k) (x1 : Int32) (σ : Sg) (hf : f_X10_bestRule k x1 σ = some o) : Vx q E L 6 (some .int) o 0 [(0, .ref (E.2.1 (k))), (1, .int x1)] [] σ := by
  unfold f_X10_bestRule at hf
  refine v_aload_n 0 C dX10_bestRule_0 rfl rfl ?_
  refine v_iload_n 1 C dX10_bestRule_1 rfl rfl ?_
  refine v_callV (st := []) 2 C [.int x1] lm_X10_126 ly_X10_isPerson (hB 0 _ rfl) (by decide) dX10_bestRule_2 rfl (by decide) rfl (Nat.le_of_ble_eq_true rfl) (fun o1 h1 => m_X10_isPerson k hB x1 σ o1 h1) hf (fun v1 s2 hf => ?_)
  refine v_if_ne (tgt := 14) 5 C dX10_bestRule_5 (by decide) hf (fun hf => ?_) (fun hf => ?_)
  · refine v_iconst (v := 0) 14 C dX10_bestRule_14 (by decide) ?_
    refine v_istore_n (lv' := [(0, .ref (E.2.1 (k))), (1, .int x1), (2, .int 0)]) 15 C dX10_bestRule_15 rfl (by decide) rfl rfl ?_
    refine v_aload_n 16 C dX10_bestRule_16 rfl rfl ?_
    refine v_getR 17 C lk_X10_53 (hB 0 _ rfl) (by decide) rfl dX10_bestRule_17 ?_
    refine v_aload_n 20 C dX10_bestRule_20 rfl rfl ?_
    refine v_getR 21 C lk_X10_10 (hB 0 _ rfl) (by decide) rfl dX10_bestRule_21 ?_
    refine v_iconst (v := 0) 24 C dX10_bestRule_24 (by decide) ?_
    refine v_iload_n 25 C dX10_bestRule_25 rfl rfl ?_
    refine v_callV (st := []) 26 C [.ref (E.2.1 (k + 1)), .int 0, .int x1] lm_X10_219 ly_X9_wholeBy ((hB.sub (sh' := sh_Work) 72 rfl) 0 _ rfl) (by decide) dX10_bestRule_26 rfl (by decide) rfl (Nat.le_of_ble_eq_true rfl) (fun o1 h1 => m_X9_wholeBy (k + 72) (k + 1) (hB.sub (sh' := sh_Work) 72 rfl) (hB.sub (sh' := sh_Game) 1 rfl) 0 x1 s2 o1 h1) hf (fun v3 s4 hf => ?_)
    refine v_istore_n (lv' := [(0, .ref (E.2.1 (k))), (1, .int x1), (2, .int 0), (3, .int v3)]) 29 C dX10_bestRule_29 rfl (by decide) rfl rfl ?_
    refine v_iconst (v := 1) 30 C dX10_bestRule_30 (by decide) ?_
    refine v_istore (lv' := [(0, .ref (E.2.1 (k))), (1, .int x1), (2, .int 0), (3, .int v3), (4, .int 1)]) 31 C dX10_bestRule_31 (by decide) rfl rfl ?_
    exact Vx.lv [0, 1, 2, 3, 4] rfl (k_X10_bestRule_b33 C k hB fu x1 0 v3 1 s4 hf)
  · refine v_aload_n 8 C dX10_bestRule_8 rfl rfl ?_
    refine v_iconst (v := (-1)) 9 C dX10_bestRule_9 (by decide) ?_
    refine v_callV (st := []) 10 C [.int (-1)] lm_X10_83 ly_X10_refuse (hB 0 _ rfl) (by decide) dX10_bestRule_10 rfl (by decide) rfl (Nat.le_of_ble_eq_true rfl) (fun o1 h1 => m_X10_refuse k hB (-1) s2 o1 h1) hf (fun v5 s6 hf => ?_)
    exact v_iret 13 C rfl dX10_bestRule_13 hf
theorem m_X10_bestRule {l : Launch} {E : En} {L : List Nat} (k : Nat) (hB : Bk L sh_AuntsPuzzle k) (x1 : Int32) (σ : Sg) (o : Int32 × Sg) (hf : f_X10_bestRule k x1 σ = some o) : Mi l yX10_bestRule cX10_bestRule 6 (some .int) (7) E L [.ref (E.2.1 (k)), .int x1] σ o :=
  Mi.of RX10 rfl (by decide) (Nat.le_of_ble_eq_true rfl) (fun q hq C => by subst hq; exact k_X10_bestRule_b0 C k hB x1 σ hf)
def f_X10_table (k : Nat) (x1 : Int32) (x2 : Int32) (σ : Sg) : Rs := p_call (f_X10_isRule k x1 σ) (fun v1 s2 => if v1 = 0 then (p_call (f_X10_refuse k (-2) s2) (fun v9 s10 => some (v9, s10))) else (if 1 ≤ x2 then (if x2 ≤ (s2 (k + 1 + 12) 0) then (p_call (f_X9_together (k + 72) (k + 1) x1 x2 s2) (fun v3 s4 => some (v3, s4))) else (p_call (f_X10_refuse k (-6) s2) (fun v5 s6 => some (v5, s6)))) else (p_call (f_X10_refuse k (-4) s2) (fun v7 s8 => some (v7, s8)))))
set_option maxRecDepth 100000 in
set_option maxHeartbeats 4000000 in
theorem k_X10_table_b0 {q : Mc} {E : En} {L : List Nat} {o : Int32 × Sg} (C : Cx q E L cX10_table 3 RX10 (some .int) (7)) (k : Nat) (hB : Bk L sh_AuntsPuzzle k) (x1 : Int32) (x2 : Int32) (σ : Sg) (hf : f_X10_table k x1 x2 σ = some o) : Vx q E L 3 (some .int) o 0 [(0, .ref (E.2.1 (k))), (1, .int x1), (2, .int x2)] [] σ := by
  unfold f_X10_table at hf
  refine v_aload_n 0 C dX10_table_0 rfl rfl ?_
  refine v_iload_n 1 C dX10_table_1 rfl rfl ?_
  refine v_callV (st := []) 2 C [.int x1] lm_X10_226 ly_X10_isRule (hB 0 _ rfl) (by decide) dX10_table_2 rfl (by decide) rfl (Nat.le_of_ble_eq_true rfl) (fun o1 h1 => m_X10_isRule k hB x1 σ o1 h1) hf (fun v1 s2 hf => ?_)
  refine v_if_ne (tgt := 15) 5 C dX10_table_5 (by decide) hf (fun hf => ?_) (fun hf => ?_)
  · refine v_iload_n 15 C dX10_table_15 rfl rfl ?_
    refine v_iconst (v := 1) 16 C dX10_table_16 (by decide) ?_
    refine v_icmp_ge (tgt := 27) 17 C dX10_table_17 (by decide) hf (fun hf => ?_) (fun hf => ?_)
    · refine v_iload_n 27 C dX10_table_27 rfl rfl ?_
      refine v_aload_n 28 C dX10_table_28 rfl rfl ?_
      refine v_getR 29 C lk_X10_10 (hB 0 _ rfl) (by decide) rfl dX10_table_29 ?_
      refine v_getR 32 C lk_X10_129 ((hB.sub (sh' := sh_Game) 1 rfl) 0 _ rfl) (by decide) rfl dX10_table_32 ?_
      refine v_getI (dum := 0) 35 C lk_X10_229 (((hB.sub (sh' := sh_Game) 1 rfl).sub (sh' := sh_People) 12 rfl) 0 _ rfl) (by decide) rfl dX10_table_35 ?_
      refine v_icmp_le (tgt := 48) 38 C dX10_table_38 (by decide) hf (fun hf => ?_) (fun hf => ?_)
      · refine v_aload_n 48 C dX10_table_48 rfl rfl ?_
        refine v_getR 49 C lk_X10_53 (hB 0 _ rfl) (by decide) rfl dX10_table_49 ?_
        refine v_aload_n 52 C dX10_table_52 rfl rfl ?_
        refine v_getR 53 C lk_X10_10 (hB 0 _ rfl) (by decide) rfl dX10_table_53 ?_
        refine v_iload_n 56 C dX10_table_56 rfl rfl ?_
        refine v_iload_n 57 C dX10_table_57 rfl rfl ?_
        refine v_callV (st := []) 58 C [.ref (E.2.1 (k + 1)), .int x1, .int x2] lm_X10_232 ly_X9_together ((hB.sub (sh' := sh_Work) 72 rfl) 0 _ rfl) (by decide) dX10_table_58 rfl (by decide) rfl (Nat.le_of_ble_eq_true rfl) (fun o1 h1 => m_X9_together (k + 72) (k + 1) (hB.sub (sh' := sh_Work) 72 rfl) (hB.sub (sh' := sh_Game) 1 rfl) x1 x2 s2 o1 h1) hf (fun v3 s4 hf => ?_)
        exact v_iret 61 C rfl dX10_table_61 hf
      · refine v_aload_n 41 C dX10_table_41 rfl rfl ?_
        refine v_bipush (v := (-6)) 42 C dX10_table_42 (by decide) ?_
        refine v_callV (st := []) 44 C [.int (-6)] lm_X10_83 ly_X10_refuse (hB 0 _ rfl) (by decide) dX10_table_44 rfl (by decide) rfl (Nat.le_of_ble_eq_true rfl) (fun o1 h1 => m_X10_refuse k hB (-6) s2 o1 h1) hf (fun v5 s6 hf => ?_)
        exact v_iret 47 C rfl dX10_table_47 hf
    · refine v_aload_n 20 C dX10_table_20 rfl rfl ?_
      refine v_bipush (v := (-4)) 21 C dX10_table_21 (by decide) ?_
      refine v_callV (st := []) 23 C [.int (-4)] lm_X10_83 ly_X10_refuse (hB 0 _ rfl) (by decide) dX10_table_23 rfl (by decide) rfl (Nat.le_of_ble_eq_true rfl) (fun o1 h1 => m_X10_refuse k hB (-4) s2 o1 h1) hf (fun v7 s8 hf => ?_)
      exact v_iret 26 C rfl dX10_table_26 hf
  · refine v_aload_n 8 C dX10_table_8 rfl rfl ?_
    refine v_bipush (v := (-2)) 9 C dX10_table_9 (by decide) ?_
    refine v_callV (st := []) 11 C [.int (-2)] lm_X10_83 ly_X10_refuse (hB 0 _ rfl) (by decide) dX10_table_11 rfl (by decide) rfl (Nat.le_of_ble_eq_true rfl) (fun o1 h1 => m_X10_refuse k hB (-2) s2 o1 h1) hf (fun v9 s10 hf => ?_)
    exact v_iret 14 C rfl dX10_table_14 hf
theorem m_X10_table {l : Launch} {E : En} {L : List Nat} (k : Nat) (hB : Bk L sh_AuntsPuzzle k) (x1 : Int32) (x2 : Int32) (σ : Sg) (o : Int32 × Sg) (hf : f_X10_table k x1 x2 σ = some o) : Mi l yX10_table cX10_table 3 (some .int) (7) E L [.ref (E.2.1 (k)), .int x1, .int x2] σ o :=
  Mi.of RX10 rfl (by decide) (Nat.le_of_ble_eq_true rfl) (fun q hq C => by subst hq; exact k_X10_table_b0 C k hB x1 x2 σ hf)
def f_X10_line_b93 (k : Nat) (r50 : Int32 → Int32 → Int32 → Int32 → Sg → Rs) (x1 : Int32) (x2 : Int32) (x3 : Int32) (x4 : Int32) (σ : Sg) : Rs := r50 x1 x2 x3 (x4 + 1) σ
set_option maxRecDepth 100000 in
set_option maxHeartbeats 4000000 in
theorem k_X10_line_b93 {q : Mc} {E : En} {L : List Nat} {o : Int32 × Sg} (C : Cx q E L cX10_line 6 RX10 (some .int) (7)) (k : Nat) (hB : Bk L sh_AuntsPuzzle k) (r50 : Int32 → Int32 → Int32 → Int32 → Sg → Rs) (hr50 : ∀ (x1 : Int32) (x2 : Int32) (x3 : Int32) (x4 : Int32) (σ : Sg), r50 x1 x2 x3 x4 σ = some o → Vx q E L 6 (some .int) o 50 [(0, .ref (E.2.1 (k))), (1, .int x1), (2, .int x2), (3, .int x3), (4, .int x4)] [] σ) (x1 : Int32) (x2 : Int32) (x3 : Int32) (x4 : Int32) (σ : Sg) (hf : f_X10_line_b93 k r50 x1 x2 x3 x4 σ = some o) : Vx q E L 6 (some .int) o 93 [(0, .ref (E.2.1 (k))), (1, .int x1), (2, .int x2), (3, .int x3), (4, .int x4)] [] σ := by
  unfold f_X10_line_b93 at hf
  refine v_iinc (v := x4 + 1) (lv' := [(0, .ref (E.2.1 (k))), (1, .int x1), (2, .int x2), (3, .int x3), (4, .int (x4 + 1))]) 93 C dX10_line_93 rfl (by rfl) (by decide) rfl rfl ?_
  refine v_goto (tgt := 50) 96 C dX10_line_96 (by decide) ?_
  exact Vx.lv [0, 1, 2, 3, 4] rfl (hr50 x1 x2 x3 (x4 + 1) σ hf)
def f_X10_line_b50 (k : Nat)  : Nat → Int32 → Int32 → Int32 → Int32 → Sg → Rs
  | 0, _, _, _, _, _ => none
  | n + 1, x1, x2, x3, x4, σ => if (σ (k + 1 + 12) 0) < x4 then (some (x2, σ)) else (p_call (f_X9_together (k + 72) (k + 1) x1 x4 σ) (fun v1 s2 => if x3 ≤ v1 then (f_X10_line_b93 k (f_X10_line_b50 k n) x1 x2 x3 x4 s2) else (f_X10_line_b93 k (f_X10_line_b50 k n) x1 x4 v1 x4 s2)))
set_option maxRecDepth 100000 in
set_option maxHeartbeats 4000000 in
theorem k_X10_line_b50 {q : Mc} {E : En} {L : List Nat} {o : Int32 × Sg} (C : Cx q E L cX10_line 6 RX10 (some .int) (7)) (k : Nat) (hB : Bk L sh_AuntsPuzzle k) (n : Nat) : ∀ (x1 : Int32) (x2 : Int32) (x3 : Int32) (x4 : Int32) (σ : Sg), f_X10_line_b50 k n x1 x2 x3 x4 σ = some o → Vx q E L 6 (some .int) o 50 [(0, .ref (E.2.1 (k))), (1, .int x1), (2, .int x2), (3, .int x3), (4, .int x4)] [] σ := by
  induction n with
  | zero => intro x1 x2 x3 x4 σ hf; cases (show (none : Rs) = some o from hf)
  | succ n ih =>
    intro x1 x2 x3 x4 σ hf
    rw [f_X10_line_b50] at hf
    refine v_iload 50 C dX10_line_50 rfl ?_
    refine v_aload_n 52 C dX10_line_52 rfl rfl ?_
    refine v_getR 53 C lk_X10_10 (hB 0 _ rfl) (by decide) rfl dX10_line_53 ?_
    refine v_getR 56 C lk_X10_129 ((hB.sub (sh' := sh_Game) 1 rfl) 0 _ rfl) (by decide) rfl dX10_line_56 ?_
    refine v_getI (dum := 0) 59 C lk_X10_229 (((hB.sub (sh' := sh_Game) 1 rfl).sub (sh' := sh_People) 12 rfl) 0 _ rfl) (by decide) rfl dX10_line_59 ?_
    refine v_icmp_gt (tgt := 99) 62 C dX10_line_62 (by decide) hf (fun hf => ?_) (fun hf => ?_)
    · refine v_iload_n 99 C dX10_line_99 rfl rfl ?_
      exact v_iret 100 C rfl dX10_line_100 hf
    · refine v_aload_n 65 C dX10_line_65 rfl rfl ?_
      refine v_getR 66 C lk_X10_53 (hB 0 _ rfl) (by decide) rfl dX10_line_66 ?_
      refine v_aload_n 69 C dX10_line_69 rfl rfl ?_
      refine v_getR 70 C lk_X10_10 (hB 0 _ rfl) (by decide) rfl dX10_line_70 ?_
      refine v_iload_n 73 C dX10_line_73 rfl rfl ?_
      refine v_iload 74 C dX10_line_74 rfl ?_
      refine v_callV (st := []) 76 C [.ref (E.2.1 (k + 1)), .int x1, .int x4] lm_X10_232 ly_X9_together ((hB.sub (sh' := sh_Work) 72 rfl) 0 _ rfl) (by decide) dX10_line_76 rfl (by decide) rfl (Nat.le_of_ble_eq_true rfl) (fun o1 h1 => m_X9_together (k + 72) (k + 1) (hB.sub (sh' := sh_Work) 72 rfl) (hB.sub (sh' := sh_Game) 1 rfl) x1 x4 σ o1 h1) hf (fun v1 s2 hf => ?_)
      refine v_istore (lv' := [(0, .ref (E.2.1 (k))), (1, .int x1), (2, .int x2), (3, .int x3), (4, .int x4), (5, .int v1)]) 79 C dX10_line_79 (by decide) rfl rfl ?_
      refine v_iload 81 C dX10_line_81 rfl ?_
      refine v_iload_n 83 C dX10_line_83 rfl rfl ?_
      refine v_icmp_ge (tgt := 93) 84 C dX10_line_84 (by decide) hf (fun hf => ?_) (fun hf => ?_)
      · exact Vx.lv [0, 1, 2, 3, 4] rfl (k_X10_line_b93 C k hB (f_X10_line_b50 k n) ih x1 x2 x3 x4 s2 hf)
      · refine v_iload 87 C dX10_line_87 rfl ?_
        refine v_istore_n (lv' := [(0, .ref (E.2.1 (k))), (1, .int x1), (2, .int x2), (3, .int v1), (4, .int x4), (5, .int v1)]) 89 C dX10_line_89 rfl (by decide) rfl rfl ?_
        refine v_iload 90 C dX10_line_90 rfl ?_
        refine v_istore_n (lv' := [(0, .ref (E.2.1 (k))), (1, .int x1), (2, .int x4), (3, .int v1), (4, .int x4), (5, .int v1)]) 92 C dX10_line_92 rfl (by decide) rfl rfl ?_
        exact Vx.lv [0, 1, 2, 3, 4] rfl (k_X10_line_b93 C k hB (f_X10_line_b50 k n) ih x1 x4 v1 x4 s2 hf)
def f_X10_line (k : Nat) (x1 : Int32) (σ : Sg) : Rs := p_call (f_X10_isRule k x1 σ) (fun v1 s2 => if v1 = 0 then (p_call (f_X10_refuse k (-2) s2) (fun v5 s6 => some (v5, s6))) else (if (s2 (k + 1 + 12) 0) = 0 then (some ((-9), s2)) else (p_call (f_X9_together (k + 72) (k + 1) x1 1 s2) (fun v3 s4 => f_X10_line_b50 k fu x1 1 v3 2 s4))))
set_option maxRecDepth 100000 in
set_option maxHeartbeats 4000000 in
theorem k_X10_line_b0 {q : Mc} {E : En} {L : List Nat} {o : Int32 × Sg} (C : Cx q E L cX10_line 6 RX10 (some .int) (7)) (k : Nat) (hB : Bk L sh_AuntsPuzzle k) (x1 : Int32) (σ : Sg) (hf : f_X10_line k x1 σ = some o) : Vx q E L 6 (some .int) o 0 [(0, .ref (E.2.1 (k))), (1, .int x1)] [] σ := by
  unfold f_X10_line at hf
  refine v_aload_n 0 C dX10_line_0 rfl rfl ?_
  refine v_iload_n 1 C dX10_line_1 rfl rfl ?_
  refine v_callV (st := []) 2 C [.int x1] lm_X10_226 ly_X10_isRule (hB 0 _ rfl) (by decide) dX10_line_2 rfl (by decide) rfl (Nat.le_of_ble_eq_true rfl) (fun o1 h1 => m_X10_isRule k hB x1 σ o1 h1) hf (fun v1 s2 hf => ?_)
  refine v_if_ne (tgt := 15) 5 C dX10_line_5 (by decide) hf (fun hf => ?_) (fun hf => ?_)
  · refine v_aload_n 15 C dX10_line_15 rfl rfl ?_
    refine v_getR 16 C lk_X10_10 (hB 0 _ rfl) (by decide) rfl dX10_line_16 ?_
    refine v_getR 19 C lk_X10_129 ((hB.sub (sh' := sh_Game) 1 rfl) 0 _ rfl) (by decide) rfl dX10_line_19 ?_
    refine v_getI (dum := 0) 22 C lk_X10_229 (((hB.sub (sh' := sh_Game) 1 rfl).sub (sh' := sh_People) 12 rfl) 0 _ rfl) (by decide) rfl dX10_line_22 ?_
    refine v_if_ne (tgt := 31) 25 C dX10_line_25 (by decide) hf (fun hf => ?_) (fun hf => ?_)
    · refine v_iconst (v := 1) 31 C dX10_line_31 (by decide) ?_
      refine v_istore_n (lv' := [(0, .ref (E.2.1 (k))), (1, .int x1), (2, .int 1)]) 32 C dX10_line_32 rfl (by decide) rfl rfl ?_
      refine v_aload_n 33 C dX10_line_33 rfl rfl ?_
      refine v_getR 34 C lk_X10_53 (hB 0 _ rfl) (by decide) rfl dX10_line_34 ?_
      refine v_aload_n 37 C dX10_line_37 rfl rfl ?_
      refine v_getR 38 C lk_X10_10 (hB 0 _ rfl) (by decide) rfl dX10_line_38 ?_
      refine v_iload_n 41 C dX10_line_41 rfl rfl ?_
      refine v_iconst (v := 1) 42 C dX10_line_42 (by decide) ?_
      refine v_callV (st := []) 43 C [.ref (E.2.1 (k + 1)), .int x1, .int 1] lm_X10_232 ly_X9_together ((hB.sub (sh' := sh_Work) 72 rfl) 0 _ rfl) (by decide) dX10_line_43 rfl (by decide) rfl (Nat.le_of_ble_eq_true rfl) (fun o1 h1 => m_X9_together (k + 72) (k + 1) (hB.sub (sh' := sh_Work) 72 rfl) (hB.sub (sh' := sh_Game) 1 rfl) x1 1 s2 o1 h1) hf (fun v3 s4 hf => ?_)
      refine v_istore_n (lv' := [(0, .ref (E.2.1 (k))), (1, .int x1), (2, .int 1), (3, .int v3)]) 46 C dX10_line_46 rfl (by decide) rfl rfl ?_
      refine v_iconst (v := 2) 47 C dX10_line_47 (by decide) ?_
      refine v_istore (lv' := [(0, .ref (E.2.1 (k))), (1, .int x1), (2, .int 1), (3, .int v3), (4, .int 2)]) 48 C dX10_line_48 (by decide) rfl rfl ?_
      exact Vx.lv [0, 1, 2, 3, 4] rfl (k_X10_line_b50 C k hB fu x1 1 v3 2 s4 hf)
    · refine v_bipush (v := (-9)) 28 C dX10_line_28 (by decide) ?_
      exact v_iret 30 C rfl dX10_line_30 hf
  · refine v_aload_n 8 C dX10_line_8 rfl rfl ?_
    refine v_bipush (v := (-2)) 9 C dX10_line_9 (by decide) ?_
    refine v_callV (st := []) 11 C [.int (-2)] lm_X10_83 ly_X10_refuse (hB 0 _ rfl) (by decide) dX10_line_11 rfl (by decide) rfl (Nat.le_of_ble_eq_true rfl) (fun o1 h1 => m_X10_refuse k hB (-2) s2 o1 h1) hf (fun v5 s6 hf => ?_)
    exact v_iret 14 C rfl dX10_line_14 hf
theorem m_X10_line {l : Launch} {E : En} {L : List Nat} (k : Nat) (hB : Bk L sh_AuntsPuzzle k) (x1 : Int32) (σ : Sg) (o : Int32 × Sg) (hf : f_X10_line k x1 σ = some o) : Mi l yX10_line cX10_line 6 (some .int) (7) E L [.ref (E.2.1 (k)), .int x1] σ o :=
  Mi.of RX10 rfl (by decide) (Nat.le_of_ble_eq_true rfl) (fun q hq C => by subst hq; exact k_X10_line_b0 C k hB x1 σ hf)
def f_X10_seems (k : Nat) (σ : Sg) : Rs := p_call (f_X5_seemingPairs (k + 91) (k + 1 + 1) (k + 1 + 6) σ) (fun v1 s2 => some (v1, s2))
set_option maxRecDepth 100000 in
set_option maxHeartbeats 4000000 in
theorem k_X10_seems_b0 {q : Mc} {E : En} {L : List Nat} {o : Int32 × Sg} (C : Cx q E L cX10_seems 1 RX10 (some .int) (4)) (k : Nat) (hB : Bk L sh_AuntsPuzzle k) (σ : Sg) (hf : f_X10_seems k σ = some o) : Vx q E L 1 (some .int) o 0 [(0, .ref (E.2.1 (k)))] [] σ := by
  unfold f_X10_seems at hf
  refine v_aload_n 0 C dX10_seems_0 rfl rfl ?_
  refine v_getR 1 C lk_X10_60 (hB 0 _ rfl) (by decide) rfl dX10_seems_1 ?_
  refine v_aload_n 4 C dX10_seems_4 rfl rfl ?_
  refine v_getR 5 C lk_X10_10 (hB 0 _ rfl) (by decide) rfl dX10_seems_5 ?_
  refine v_getR 8 C lk_X10_113 ((hB.sub (sh' := sh_Game) 1 rfl) 0 _ rfl) (by decide) rfl dX10_seems_8 ?_
  refine v_aload_n 11 C dX10_seems_11 rfl rfl ?_
  refine v_getR 12 C lk_X10_10 (hB 0 _ rfl) (by decide) rfl dX10_seems_12 ?_
  refine v_getR 15 C lk_X10_141 ((hB.sub (sh' := sh_Game) 1 rfl) 0 _ rfl) (by decide) rfl dX10_seems_15 ?_
  refine v_callV (st := []) 18 C [.ref (E.2.1 (k + 1 + 1)), .ref (E.2.1 (k + 1 + 6))] lm_X10_235 ly_X5_seemingPairs ((hB.sub (sh' := sh_Pile) 91 rfl) 0 _ rfl) (by decide) dX10_seems_18 rfl (by decide) rfl (Nat.le_of_ble_eq_true rfl) (fun o1 h1 => m_X5_seemingPairs (k + 91) (k + 1 + 1) (k + 1 + 6) (hB.sub (sh' := sh_Pile) 91 rfl) ((hB.sub (sh' := sh_Game) 1 rfl).sub (sh' := sh_Cut) 1 rfl) ((hB.sub (sh' := sh_Game) 1 rfl).sub (sh' := sh_Board) 6 rfl)  σ o1 h1) hf (fun v1 s2 hf => ?_)
  exact v_iret 21 C rfl dX10_seems_21 hf
theorem m_X10_seems {l : Launch} {E : En} {L : List Nat} (k : Nat) (hB : Bk L sh_AuntsPuzzle k) (σ : Sg) (o : Int32 × Sg) (hf : f_X10_seems k σ = some o) : Mi l yX10_seems cX10_seems 1 (some .int) (4) E L [.ref (E.2.1 (k))] σ o :=
  Mi.of RX10 rfl (by decide) (Nat.le_of_ble_eq_true rfl) (fun q hq C => by subst hq; exact k_X10_seems_b0 C k hB  σ hf)
def f_X10_wrong_b35 (k : Nat) (r4 : Int32 → Int32 → Sg → Rs) (x1 : Int32) (x2 : Int32) (σ : Sg) : Rs := r4 x1 (x2 + 1) σ
set_option maxRecDepth 100000 in
set_option maxHeartbeats 4000000 in
theorem k_X10_wrong_b35 {q : Mc} {E : En} {L : List Nat} {o : Int32 × Sg} (C : Cx q E L cX10_wrong 3 RX10 (some .int) (2)) (k : Nat) (hB : Bk L sh_AuntsPuzzle k) (r4 : Int32 → Int32 → Sg → Rs) (hr4 : ∀ (x1 : Int32) (x2 : Int32) (σ : Sg), r4 x1 x2 σ = some o → Vx q E L 3 (some .int) o 4 [(0, .ref (E.2.1 (k))), (1, .int x1), (2, .int x2)] [] σ) (x1 : Int32) (x2 : Int32) (σ : Sg) (hf : f_X10_wrong_b35 k r4 x1 x2 σ = some o) : Vx q E L 3 (some .int) o 35 [(0, .ref (E.2.1 (k))), (1, .int x1), (2, .int x2)] [] σ := by
  unfold f_X10_wrong_b35 at hf
  refine v_iinc (v := x2 + 1) (lv' := [(0, .ref (E.2.1 (k))), (1, .int x1), (2, .int (x2 + 1))]) 35 C dX10_wrong_35 rfl (by rfl) (by decide) rfl rfl ?_
  refine v_goto (tgt := 4) 38 C dX10_wrong_38 (by decide) ?_
  exact Vx.lv [0, 1, 2] rfl (hr4 x1 (x2 + 1) σ hf)
def f_X10_wrong_b4 (k : Nat)  : Nat → Int32 → Int32 → Sg → Rs
  | 0, _, _, _ => none
  | n + 1, x1, x2, σ => if (σ (k + 1 + 1) 2) ≤ x2 then (some (x1, σ)) else (p_call (f_X0_isRight (k + 1 + 6) x2 σ) (fun v1 s2 => if v1 = 0 then (f_X10_wrong_b35 k (f_X10_wrong_b4 k n) (x1 + 1) x2 s2) else (f_X10_wrong_b35 k (f_X10_wrong_b4 k n) x1 x2 s2)))
set_option maxRecDepth 100000 in
set_option maxHeartbeats 4000000 in
theorem k_X10_wrong_b4 {q : Mc} {E : En} {L : List Nat} {o : Int32 × Sg} (C : Cx q E L cX10_wrong 3 RX10 (some .int) (2)) (k : Nat) (hB : Bk L sh_AuntsPuzzle k) (n : Nat) : ∀ (x1 : Int32) (x2 : Int32) (σ : Sg), f_X10_wrong_b4 k n x1 x2 σ = some o → Vx q E L 3 (some .int) o 4 [(0, .ref (E.2.1 (k))), (1, .int x1), (2, .int x2)] [] σ := by
  induction n with
  | zero => intro x1 x2 σ hf; cases (show (none : Rs) = some o from hf)
  | succ n ih =>
    intro x1 x2 σ hf
    rw [f_X10_wrong_b4] at hf
    refine v_iload_n 4 C dX10_wrong_4 rfl rfl ?_
    refine v_aload_n 5 C dX10_wrong_5 rfl rfl ?_
    refine v_getR 6 C lk_X10_10 (hB 0 _ rfl) (by decide) rfl dX10_wrong_6 ?_
    refine v_getR 9 C lk_X10_113 ((hB.sub (sh' := sh_Game) 1 rfl) 0 _ rfl) (by decide) rfl dX10_wrong_9 ?_
    refine v_getI (dum := 0) 12 C lk_X10_239 (((hB.sub (sh' := sh_Game) 1 rfl).sub (sh' := sh_Cut) 1 rfl) 0 _ rfl) (by decide) rfl dX10_wrong_12 ?_
    refine v_icmp_ge (tgt := 41) 15 C dX10_wrong_15 (by decide) hf (fun hf => ?_) (fun hf => ?_)
    · refine v_iload_n 41 C dX10_wrong_41 rfl rfl ?_
      exact v_iret 42 C rfl dX10_wrong_42 hf
    · refine v_aload_n 18 C dX10_wrong_18 rfl rfl ?_
      refine v_getR 19 C lk_X10_10 (hB 0 _ rfl) (by decide) rfl dX10_wrong_19 ?_
      refine v_getR 22 C lk_X10_141 ((hB.sub (sh' := sh_Game) 1 rfl) 0 _ rfl) (by decide) rfl dX10_wrong_22 ?_
      refine v_iload_n 25 C dX10_wrong_25 rfl rfl ?_
      refine v_callV (st := []) 26 C [.int x2] lm_X10_242 ly_X0_isRight (((hB.sub (sh' := sh_Game) 1 rfl).sub (sh' := sh_Board) 6 rfl) 0 _ rfl) (by decide) dX10_wrong_26 rfl (by decide) rfl (Nat.le_of_ble_eq_true rfl) (fun o1 h1 => m_X0_isRight (k + 1 + 6) ((hB.sub (sh' := sh_Game) 1 rfl).sub (sh' := sh_Board) 6 rfl) x2 σ o1 h1) hf (fun v1 s2 hf => ?_)
      refine v_if_ne (tgt := 35) 29 C dX10_wrong_29 (by decide) hf (fun hf => ?_) (fun hf => ?_)
      · exact Vx.lv [0, 1, 2] rfl (k_X10_wrong_b35 C k hB (f_X10_wrong_b4 k n) ih x1 x2 s2 hf)
      · refine v_iinc (v := x1 + 1) (lv' := [(0, .ref (E.2.1 (k))), (1, .int (x1 + 1)), (2, .int x2)]) 32 C dX10_wrong_32 rfl (by rfl) (by decide) rfl rfl ?_
        exact Vx.lv [0, 1, 2] rfl (k_X10_wrong_b35 C k hB (f_X10_wrong_b4 k n) ih (x1 + 1) x2 s2 hf)
def f_X10_wrong (k : Nat) (σ : Sg) : Rs := f_X10_wrong_b4 k fu 0 0 σ
set_option maxRecDepth 100000 in
set_option maxHeartbeats 4000000 in
theorem k_X10_wrong_b0 {q : Mc} {E : En} {L : List Nat} {o : Int32 × Sg} (C : Cx q E L cX10_wrong 3 RX10 (some .int) (2)) (k : Nat) (hB : Bk L sh_AuntsPuzzle k) (σ : Sg) (hf : f_X10_wrong k σ = some o) : Vx q E L 3 (some .int) o 0 [(0, .ref (E.2.1 (k)))] [] σ := by
  unfold f_X10_wrong at hf
  refine v_iconst (v := 0) 0 C dX10_wrong_0 (by decide) ?_
  refine v_istore_n (lv' := [(0, .ref (E.2.1 (k))), (1, .int 0)]) 1 C dX10_wrong_1 rfl (by decide) rfl rfl ?_
  refine v_iconst (v := 0) 2 C dX10_wrong_2 (by decide) ?_
  refine v_istore_n (lv' := [(0, .ref (E.2.1 (k))), (1, .int 0), (2, .int 0)]) 3 C dX10_wrong_3 rfl (by decide) rfl rfl ?_
  exact Vx.lv [0, 1, 2] rfl (k_X10_wrong_b4 C k hB fu 0 0 σ hf)
theorem m_X10_wrong {l : Launch} {E : En} {L : List Nat} (k : Nat) (hB : Bk L sh_AuntsPuzzle k) (σ : Sg) (o : Int32 × Sg) (hf : f_X10_wrong k σ = some o) : Mi l yX10_wrong cX10_wrong 3 (some .int) (2) E L [.ref (E.2.1 (k))] σ o :=
  Mi.of RX10 rfl (by decide) (Nat.le_of_ble_eq_true rfl) (fun q hq C => by subst hq; exact k_X10_wrong_b0 C k hB  σ hf)
def f_X10_falseOne_b46 (k : Nat) (r2 : Int32 → Sg → Rs) (x1 : Int32) (σ : Sg) : Rs := r2 (x1 + 1) σ
set_option maxRecDepth 100000 in
set_option maxHeartbeats 4000000 in
theorem k_X10_falseOne_b46 {q : Mc} {E : En} {L : List Nat} {o : Int32 × Sg} (C : Cx q E L cX10_falseOne 2 RX10 (some .int) (2)) (k : Nat) (hB : Bk L sh_AuntsPuzzle k) (r2 : Int32 → Sg → Rs) (hr2 : ∀ (x1 : Int32) (σ : Sg), r2 x1 σ = some o → Vx q E L 2 (some .int) o 2 [(0, .ref (E.2.1 (k))), (1, .int x1)] [] σ) (x1 : Int32) (σ : Sg) (hf : f_X10_falseOne_b46 k r2 x1 σ = some o) : Vx q E L 2 (some .int) o 46 [(0, .ref (E.2.1 (k))), (1, .int x1)] [] σ := by
  unfold f_X10_falseOne_b46 at hf
  refine v_iinc (v := x1 + 1) (lv' := [(0, .ref (E.2.1 (k))), (1, .int (x1 + 1))]) 46 C dX10_falseOne_46 rfl (by rfl) (by decide) rfl rfl ?_
  refine v_goto (tgt := 2) 49 C dX10_falseOne_49 (by decide) ?_
  exact Vx.lv [0, 1] rfl (hr2 (x1 + 1) σ hf)
def f_X10_falseOne_b2 (k : Nat)  : Nat → Int32 → Sg → Rs
  | 0, _, _ => none
  | n + 1, x1, σ => if (σ (k + 1 + 1) 2) ≤ x1 then (some ((-9), σ)) else (p_call (f_X0_isFilled (k + 1 + 6) x1 σ) (fun v1 s2 => if v1 = 0 then (f_X10_falseOne_b46 k (f_X10_falseOne_b2 k n) x1 s2) else (p_call (f_X0_isRight (k + 1 + 6) x1 s2) (fun v3 s4 => if v3 = 0 then (some (x1, s4)) else (f_X10_falseOne_b46 k (f_X10_falseOne_b2 k n) x1 s4)))))
set_option maxRecDepth 100000 in
set_option maxHeartbeats 4000000 in
theorem k_X10_falseOne_b2 {q : Mc} {E : En} {L : List Nat} {o : Int32 × Sg} (C : Cx q E L cX10_falseOne 2 RX10 (some .int) (2)) (k : Nat) (hB : Bk L sh_AuntsPuzzle k) (n : Nat) : ∀ (x1 : Int32) (σ : Sg), f_X10_falseOne_b2 k n x1 σ = some o → Vx q E L 2 (some .int) o 2 [(0, .ref (E.2.1 (k))), (1, .int x1)] [] σ := by
  induction n with
  | zero => intro x1 σ hf; cases (show (none : Rs) = some o from hf)
  | succ n ih =>
    intro x1 σ hf
    rw [f_X10_falseOne_b2] at hf
    refine v_iload_n 2 C dX10_falseOne_2 rfl rfl ?_
    refine v_aload_n 3 C dX10_falseOne_3 rfl rfl ?_
    refine v_getR 4 C lk_X10_10 (hB 0 _ rfl) (by decide) rfl dX10_falseOne_4 ?_
    refine v_getR 7 C lk_X10_113 ((hB.sub (sh' := sh_Game) 1 rfl) 0 _ rfl) (by decide) rfl dX10_falseOne_7 ?_
    refine v_getI (dum := 0) 10 C lk_X10_239 (((hB.sub (sh' := sh_Game) 1 rfl).sub (sh' := sh_Cut) 1 rfl) 0 _ rfl) (by decide) rfl dX10_falseOne_10 ?_
    refine v_icmp_ge (tgt := 52) 13 C dX10_falseOne_13 (by decide) hf (fun hf => ?_) (fun hf => ?_)
    · refine v_bipush (v := (-9)) 52 C dX10_falseOne_52 (by decide) ?_
      exact v_iret 54 C rfl dX10_falseOne_54 hf
    · refine v_aload_n 16 C dX10_falseOne_16 rfl rfl ?_
      refine v_getR 17 C lk_X10_10 (hB 0 _ rfl) (by decide) rfl dX10_falseOne_17 ?_
      refine v_getR 20 C lk_X10_141 ((hB.sub (sh' := sh_Game) 1 rfl) 0 _ rfl) (by decide) rfl dX10_falseOne_20 ?_
      refine v_iload_n 23 C dX10_falseOne_23 rfl rfl ?_
      refine v_callV (st := []) 24 C [.int x1] lm_X10_150 ly_X0_isFilled (((hB.sub (sh' := sh_Game) 1 rfl).sub (sh' := sh_Board) 6 rfl) 0 _ rfl) (by decide) dX10_falseOne_24 rfl (by decide) rfl (Nat.le_of_ble_eq_true rfl) (fun o1 h1 => m_X0_isFilled (k + 1 + 6) ((hB.sub (sh' := sh_Game) 1 rfl).sub (sh' := sh_Board) 6 rfl) x1 σ o1 h1) hf (fun v1 s2 hf => ?_)
      refine v_if_eq (tgt := 46) 27 C dX10_falseOne_27 (by decide) hf (fun hf => ?_) (fun hf => ?_)
      · exact Vx.lv [0, 1] rfl (k_X10_falseOne_b46 C k hB (f_X10_falseOne_b2 k n) ih x1 s2 hf)
      · refine v_aload_n 30 C dX10_falseOne_30 rfl rfl ?_
        refine v_getR 31 C lk_X10_10 (hB 0 _ rfl) (by decide) rfl dX10_falseOne_31 ?_
        refine v_getR 34 C lk_X10_141 ((hB.sub (sh' := sh_Game) 1 rfl) 0 _ rfl) (by decide) rfl dX10_falseOne_34 ?_
        refine v_iload_n 37 C dX10_falseOne_37 rfl rfl ?_
        refine v_callV (st := []) 38 C [.int x1] lm_X10_242 ly_X0_isRight (((hB.sub (sh' := sh_Game) 1 rfl).sub (sh' := sh_Board) 6 rfl) 0 _ rfl) (by decide) dX10_falseOne_38 rfl (by decide) rfl (Nat.le_of_ble_eq_true rfl) (fun o1 h1 => m_X0_isRight (k + 1 + 6) ((hB.sub (sh' := sh_Game) 1 rfl).sub (sh' := sh_Board) 6 rfl) x1 s2 o1 h1) hf (fun v3 s4 hf => ?_)
        refine v_if_ne (tgt := 46) 41 C dX10_falseOne_41 (by decide) hf (fun hf => ?_) (fun hf => ?_)
        · exact Vx.lv [0, 1] rfl (k_X10_falseOne_b46 C k hB (f_X10_falseOne_b2 k n) ih x1 s4 hf)
        · refine v_iload_n 44 C dX10_falseOne_44 rfl rfl ?_
          exact v_iret 45 C rfl dX10_falseOne_45 hf
def f_X10_falseOne (k : Nat) (σ : Sg) : Rs := f_X10_falseOne_b2 k fu 0 σ
set_option maxRecDepth 100000 in
set_option maxHeartbeats 4000000 in
theorem k_X10_falseOne_b0 {q : Mc} {E : En} {L : List Nat} {o : Int32 × Sg} (C : Cx q E L cX10_falseOne 2 RX10 (some .int) (2)) (k : Nat) (hB : Bk L sh_AuntsPuzzle k) (σ : Sg) (hf : f_X10_falseOne k σ = some o) : Vx q E L 2 (some .int) o 0 [(0, .ref (E.2.1 (k)))] [] σ := by
  unfold f_X10_falseOne at hf
  refine v_iconst (v := 0) 0 C dX10_falseOne_0 (by decide) ?_
  refine v_istore_n (lv' := [(0, .ref (E.2.1 (k))), (1, .int 0)]) 1 C dX10_falseOne_1 rfl (by decide) rfl rfl ?_
  exact Vx.lv [0, 1] rfl (k_X10_falseOne_b2 C k hB fu 0 σ hf)
theorem m_X10_falseOne {l : Launch} {E : En} {L : List Nat} (k : Nat) (hB : Bk L sh_AuntsPuzzle k) (σ : Sg) (o : Int32 × Sg) (hf : f_X10_falseOne k σ = some o) : Mi l yX10_falseOne cX10_falseOne 2 (some .int) (2) E L [.ref (E.2.1 (k))] σ o :=
  Mi.of RX10 rfl (by decide) (Nat.le_of_ble_eq_true rfl) (fun q hq C => by subst hq; exact k_X10_falseOne_b0 C k hB  σ hf)
def f_X10_over_b43 (k : Nat) (r2 : Int32 → Sg → Rs) (x1 : Int32) (σ : Sg) : Rs := r2 (x1 + 1) σ
set_option maxRecDepth 100000 in
set_option maxHeartbeats 4000000 in
theorem k_X10_over_b43 {q : Mc} {E : En} {L : List Nat} {o : Int32 × Sg} (C : Cx q E L cX10_over 2 RX10 (some .int) (6)) (k : Nat) (hB : Bk L sh_AuntsPuzzle k) (r2 : Int32 → Sg → Rs) (hr2 : ∀ (x1 : Int32) (σ : Sg), r2 x1 σ = some o → Vx q E L 2 (some .int) o 2 [(0, .ref (E.2.1 (k))), (1, .int x1)] [] σ) (x1 : Int32) (σ : Sg) (hf : f_X10_over_b43 k r2 x1 σ = some o) : Vx q E L 2 (some .int) o 43 [(0, .ref (E.2.1 (k))), (1, .int x1)] [] σ := by
  unfold f_X10_over_b43 at hf
  refine v_iinc (v := x1 + 1) (lv' := [(0, .ref (E.2.1 (k))), (1, .int (x1 + 1))]) 43 C dX10_over_43 rfl (by rfl) (by decide) rfl rfl ?_
  refine v_goto (tgt := 2) 46 C dX10_over_46 (by decide) ?_
  exact Vx.lv [0, 1] rfl (hr2 (x1 + 1) σ hf)
def f_X10_over_b2 (k : Nat)  : Nat → Int32 → Sg → Rs
  | 0, _, _ => none
  | n + 1, x1, σ => if (σ (k + 1 + 1) 2) ≤ x1 then (some ((-9), σ)) else (p_call (f_X0_isAway (k + 1 + 6) x1 σ) (fun v1 s2 => if v1 = 0 then (p_call (f_X3_hasPlaceFor (k + 1) x1 s2) (fun v3 s4 => if v3 = 0 then (some (x1, s4)) else (f_X10_over_b43 k (f_X10_over_b2 k n) x1 s4))) else (f_X10_over_b43 k (f_X10_over_b2 k n) x1 s2)))
set_option maxRecDepth 100000 in
set_option maxHeartbeats 4000000 in
theorem k_X10_over_b2 {q : Mc} {E : En} {L : List Nat} {o : Int32 × Sg} (C : Cx q E L cX10_over 2 RX10 (some .int) (6)) (k : Nat) (hB : Bk L sh_AuntsPuzzle k) (n : Nat) : ∀ (x1 : Int32) (σ : Sg), f_X10_over_b2 k n x1 σ = some o → Vx q E L 2 (some .int) o 2 [(0, .ref (E.2.1 (k))), (1, .int x1)] [] σ := by
  induction n with
  | zero => intro x1 σ hf; cases (show (none : Rs) = some o from hf)
  | succ n ih =>
    intro x1 σ hf
    rw [f_X10_over_b2] at hf
    refine v_iload_n 2 C dX10_over_2 rfl rfl ?_
    refine v_aload_n 3 C dX10_over_3 rfl rfl ?_
    refine v_getR 4 C lk_X10_10 (hB 0 _ rfl) (by decide) rfl dX10_over_4 ?_
    refine v_getR 7 C lk_X10_113 ((hB.sub (sh' := sh_Game) 1 rfl) 0 _ rfl) (by decide) rfl dX10_over_7 ?_
    refine v_getI (dum := 0) 10 C lk_X10_239 (((hB.sub (sh' := sh_Game) 1 rfl).sub (sh' := sh_Cut) 1 rfl) 0 _ rfl) (by decide) rfl dX10_over_10 ?_
    refine v_icmp_ge (tgt := 49) 13 C dX10_over_13 (by decide) hf (fun hf => ?_) (fun hf => ?_)
    · refine v_bipush (v := (-9)) 49 C dX10_over_49 (by decide) ?_
      exact v_iret 51 C rfl dX10_over_51 hf
    · refine v_aload_n 16 C dX10_over_16 rfl rfl ?_
      refine v_getR 17 C lk_X10_10 (hB 0 _ rfl) (by decide) rfl dX10_over_17 ?_
      refine v_getR 20 C lk_X10_141 ((hB.sub (sh' := sh_Game) 1 rfl) 0 _ rfl) (by decide) rfl dX10_over_20 ?_
      refine v_iload_n 23 C dX10_over_23 rfl rfl ?_
      refine v_callV (st := []) 24 C [.int x1] lm_X10_184 ly_X0_isAway (((hB.sub (sh' := sh_Game) 1 rfl).sub (sh' := sh_Board) 6 rfl) 0 _ rfl) (by decide) dX10_over_24 rfl (by decide) rfl (Nat.le_of_ble_eq_true rfl) (fun o1 h1 => m_X0_isAway (k + 1 + 6) ((hB.sub (sh' := sh_Game) 1 rfl).sub (sh' := sh_Board) 6 rfl) x1 σ o1 h1) hf (fun v1 s2 hf => ?_)
      refine v_if_ne (tgt := 43) 27 C dX10_over_27 (by decide) hf (fun hf => ?_) (fun hf => ?_)
      · exact Vx.lv [0, 1] rfl (k_X10_over_b43 C k hB (f_X10_over_b2 k n) ih x1 s2 hf)
      · refine v_aload_n 30 C dX10_over_30 rfl rfl ?_
        refine v_getR 31 C lk_X10_10 (hB 0 _ rfl) (by decide) rfl dX10_over_31 ?_
        refine v_iload_n 34 C dX10_over_34 rfl rfl ?_
        refine v_callV (st := []) 35 C [.int x1] lm_X10_245 ly_X3_hasPlaceFor ((hB.sub (sh' := sh_Game) 1 rfl) 0 _ rfl) (by decide) dX10_over_35 rfl (by decide) rfl (Nat.le_of_ble_eq_true rfl) (fun o1 h1 => m_X3_hasPlaceFor (k + 1) (hB.sub (sh' := sh_Game) 1 rfl) x1 s2 o1 h1) hf (fun v3 s4 hf => ?_)
        refine v_if_ne (tgt := 43) 38 C dX10_over_38 (by decide) hf (fun hf => ?_) (fun hf => ?_)
        · exact Vx.lv [0, 1] rfl (k_X10_over_b43 C k hB (f_X10_over_b2 k n) ih x1 s4 hf)
        · refine v_iload_n 41 C dX10_over_41 rfl rfl ?_
          exact v_iret 42 C rfl dX10_over_42 hf
def f_X10_over (k : Nat) (σ : Sg) : Rs := f_X10_over_b2 k fu 0 σ
set_option maxRecDepth 100000 in
set_option maxHeartbeats 4000000 in
theorem k_X10_over_b0 {q : Mc} {E : En} {L : List Nat} {o : Int32 × Sg} (C : Cx q E L cX10_over 2 RX10 (some .int) (6)) (k : Nat) (hB : Bk L sh_AuntsPuzzle k) (σ : Sg) (hf : f_X10_over k σ = some o) : Vx q E L 2 (some .int) o 0 [(0, .ref (E.2.1 (k)))] [] σ := by
  unfold f_X10_over at hf
  refine v_iconst (v := 0) 0 C dX10_over_0 (by decide) ?_
  refine v_istore_n (lv' := [(0, .ref (E.2.1 (k))), (1, .int 0)]) 1 C dX10_over_1 rfl (by decide) rfl rfl ?_
  exact Vx.lv [0, 1] rfl (k_X10_over_b2 C k hB fu 0 σ hf)
theorem m_X10_over {l : Launch} {E : En} {L : List Nat} (k : Nat) (hB : Bk L sh_AuntsPuzzle k) (σ : Sg) (o : Int32 × Sg) (hf : f_X10_over k σ = some o) : Mi l yX10_over cX10_over 2 (some .int) (6) E L [.ref (E.2.1 (k))] σ o :=
  Mi.of RX10 rfl (by decide) (Nat.le_of_ble_eq_true rfl) (fun q hq C => by subst hq; exact k_X10_over_b0 C k hB  σ hf)
def f_X10_balance_b11 (k : Nat) (σ : Sg) : Rs := p_call (f_X10_refuse k (-1) σ) (fun v1 s2 => some (1000000000 - v1, s2))
set_option maxRecDepth 100000 in
set_option maxHeartbeats 4000000 in
theorem k_X10_balance_b11 {q : Mc} {E : En} {L : List Nat} {o : Int32 × Sg} (C : Cx q E L cX10_balance 2 RX10 (some .int) (4)) (k : Nat) (hB : Bk L sh_AuntsPuzzle k) (σ : Sg) (hf : f_X10_balance_b11 k σ = some o) : Vx q E L 2 (some .int) o 11 [(0, .ref (E.2.1 (k)))] [] σ := by
  unfold f_X10_balance_b11 at hf
  refine v_ldc 11 C co_X10_109 dX10_balance_11 ?_
  refine v_aload_n 13 C dX10_balance_13 rfl rfl ?_
  refine v_iconst (v := (-1)) 14 C dX10_balance_14 (by decide) ?_
  refine v_callV (st := [.int 1000000000]) 15 C [.int (-1)] lm_X10_83 ly_X10_refuse (hB 0 _ rfl) (by decide) dX10_balance_15 rfl (by decide) rfl (Nat.le_of_ble_eq_true rfl) (fun o1 h1 => m_X10_refuse k hB (-1) σ o1 h1) hf (fun v1 s2 hf => ?_)
  refine v_isub 18 C dX10_balance_18 ?_
  exact v_iret 19 C rfl dX10_balance_19 hf
def f_X10_balance (k : Nat) (x1 : Int32) (σ : Sg) : Rs := if x1 < 1 then (f_X10_balance_b11 k σ) else (if x1 ≤ 9 then (p_call (f_X5_weigh (k + 91) (k + 1) σ) (fun v1 s2 => p_rd s2 (k + 91 + 2) 10 x1 (fun v3 => some (v3, s2)))) else (f_X10_balance_b11 k σ))
set_option maxRecDepth 100000 in
set_option maxHeartbeats 4000000 in
theorem k_X10_balance_b0 {q : Mc} {E : En} {L : List Nat} {o : Int32 × Sg} (C : Cx q E L cX10_balance 2 RX10 (some .int) (4)) (k : Nat) (hB : Bk L sh_AuntsPuzzle k) (x1 : Int32) (σ : Sg) (hf : f_X10_balance k x1 σ = some o) : Vx q E L 2 (some .int) o 0 [(0, .ref (E.2.1 (k))), (1, .int x1)] [] σ := by
  unfold f_X10_balance at hf
  refine v_iload_n 0 C dX10_balance_0 rfl rfl ?_
  refine v_iconst (v := 1) 1 C dX10_balance_1 (by decide) ?_
  refine v_icmp_lt (tgt := 11) 2 C dX10_balance_2 (by decide) hf (fun hf => ?_) (fun hf => ?_)
  · exact Vx.lv [0] rfl (k_X10_balance_b11 C k hB σ hf)
  · refine v_iload_n 5 C dX10_balance_5 rfl rfl ?_
    refine v_bipush (v := 9) 6 C dX10_balance_6 (by decide) ?_
    refine v_icmp_le (tgt := 20) 8 C dX10_balance_8 (by decide) hf (fun hf => ?_) (fun hf => ?_)
    · refine v_aload_n 20 C dX10_balance_20 rfl rfl ?_
      refine v_getR 21 C lk_X10_60 (hB 0 _ rfl) (by decide) rfl dX10_balance_21 ?_
      refine v_aload_n 24 C dX10_balance_24 rfl rfl ?_
      refine v_getR 25 C lk_X10_10 (hB 0 _ rfl) (by decide) rfl dX10_balance_25 ?_
      refine v_callV (st := []) 28 C [.ref (E.2.1 (k + 1))] lm_X10_248 ly_X5_weigh ((hB.sub (sh' := sh_Pile) 91 rfl) 0 _ rfl) (by decide) dX10_balance_28 rfl (by decide) rfl (Nat.le_of_ble_eq_true rfl) (fun o1 h1 => m_X5_weigh (k + 91) (k + 1) (hB.sub (sh' := sh_Pile) 91 rfl) (hB.sub (sh' := sh_Game) 1 rfl)  σ o1 h1) hf (fun v1 s2 hf => ?_)
      refine v_aload_n 31 C dX10_balance_31 rfl rfl ?_
      refine v_getR 32 C lk_X10_60 (hB 0 _ rfl) (by decide) rfl dX10_balance_32 ?_
      refine v_getR 35 C lk_X10_251 ((hB.sub (sh' := sh_Pile) 91 rfl) 0 _ rfl) (by decide) rfl dX10_balance_35 ?_
      refine v_iload_n 38 C dX10_balance_38 rfl rfl ?_
      refine v_iald 39 C ((hB.sub (sh' := sh_Pile) 91 rfl) 2 _ rfl) dX10_balance_39 hf (fun v3 hf => ?_)
      exact v_iret 40 C rfl dX10_balance_40 hf
    · exact Vx.lv [0] rfl (k_X10_balance_b11 C k hB σ hf)
theorem m_X10_balance {l : Launch} {E : En} {L : List Nat} (k : Nat) (hB : Bk L sh_AuntsPuzzle k) (x1 : Int32) (σ : Sg) (o : Int32 × Sg) (hf : f_X10_balance k x1 σ = some o) : Mi l yX10_balance cX10_balance 2 (some .int) (4) E L [.ref (E.2.1 (k)), .int x1] σ o :=
  Mi.of RX10 rfl (by decide) (Nat.le_of_ble_eq_true rfl) (fun q hq C => by subst hq; exact k_X10_balance_b0 C k hB x1 σ hf)
def f_X10_lacks (k : Nat) (σ : Sg) : Rs := p_call (f_X5_weigh (k + 91) (k + 1) σ) (fun v1 s2 => p_call (f_X5_isShort (k + 91) s2) (fun v3 s4 => if v3 = 0 then (some (0, s4)) else (some (1, s4))))
set_option maxRecDepth 100000 in
set_option maxHeartbeats 4000000 in
theorem k_X10_lacks_b0 {q : Mc} {E : En} {L : List Nat} {o : Int32 × Sg} (C : Cx q E L cX10_lacks 1 RX10 (some .int) (4)) (k : Nat) (hB : Bk L sh_AuntsPuzzle k) (σ : Sg) (hf : f_X10_lacks k σ = some o) : Vx q E L 1 (some .int) o 0 [(0, .ref (E.2.1 (k)))] [] σ := by
  unfold f_X10_lacks at hf
  refine v_aload_n 0 C dX10_lacks_0 rfl rfl ?_
  refine v_getR 1 C lk_X10_60 (hB 0 _ rfl) (by decide) rfl dX10_lacks_1 ?_
  refine v_aload_n 4 C dX10_lacks_4 rfl rfl ?_
  refine v_getR 5 C lk_X10_10 (hB 0 _ rfl) (by decide) rfl dX10_lacks_5 ?_
  refine v_callV (st := []) 8 C [.ref (E.2.1 (k + 1))] lm_X10_248 ly_X5_weigh ((hB.sub (sh' := sh_Pile) 91 rfl) 0 _ rfl) (by decide) dX10_lacks_8 rfl (by decide) rfl (Nat.le_of_ble_eq_true rfl) (fun o1 h1 => m_X5_weigh (k + 91) (k + 1) (hB.sub (sh' := sh_Pile) 91 rfl) (hB.sub (sh' := sh_Game) 1 rfl)  σ o1 h1) hf (fun v1 s2 hf => ?_)
  refine v_aload_n 11 C dX10_lacks_11 rfl rfl ?_
  refine v_getR 12 C lk_X10_60 (hB 0 _ rfl) (by decide) rfl dX10_lacks_12 ?_
  refine v_callV (st := []) 15 C [] lm_X10_254 ly_X5_isShort ((hB.sub (sh' := sh_Pile) 91 rfl) 0 _ rfl) (by decide) dX10_lacks_15 rfl (by decide) rfl (Nat.le_of_ble_eq_true rfl) (fun o1 h1 => m_X5_isShort (k + 91) (hB.sub (sh' := sh_Pile) 91 rfl)  s2 o1 h1) hf (fun v3 s4 hf => ?_)
  refine v_if_eq (tgt := 25) 18 C dX10_lacks_18 (by decide) hf (fun hf => ?_) (fun hf => ?_)
  · refine v_iconst (v := 0) 25 C dX10_lacks_25 (by decide) ?_
    exact v_iret 26 C rfl dX10_lacks_26 hf
  · refine v_iconst (v := 1) 21 C dX10_lacks_21 (by decide) ?_
    refine v_goto (tgt := 26) 22 C dX10_lacks_22 (by decide) ?_
    exact v_iret 26 C rfl dX10_lacks_26 hf
theorem m_X10_lacks {l : Launch} {E : En} {L : List Nat} (k : Nat) (hB : Bk L sh_AuntsPuzzle k) (σ : Sg) (o : Int32 × Sg) (hf : f_X10_lacks k σ = some o) : Mi l yX10_lacks cX10_lacks 1 (some .int) (4) E L [.ref (E.2.1 (k))] σ o :=
  Mi.of RX10 rfl (by decide) (Nat.le_of_ble_eq_true rfl) (fun q hq C => by subst hq; exact k_X10_lacks_b0 C k hB  σ hf)
def f_X10_which (k : Nat) (σ : Sg) : Rs := p_call (f_X5_weigh (k + 91) (k + 1) σ) (fun v1 s2 => p_call (f_X5_isShort (k + 91) s2) (fun v3 s4 => if v3 = 0 then (some (0, s4)) else (p_call (f_X5_suspects (k + 91) (k + 1 + 1) s4) (fun v5 s6 => some (v5, s6)))))
set_option maxRecDepth 100000 in
set_option maxHeartbeats 4000000 in
theorem k_X10_which_b0 {q : Mc} {E : En} {L : List Nat} {o : Int32 × Sg} (C : Cx q E L cX10_which 1 RX10 (some .int) (4)) (k : Nat) (hB : Bk L sh_AuntsPuzzle k) (σ : Sg) (hf : f_X10_which k σ = some o) : Vx q E L 1 (some .int) o 0 [(0, .ref (E.2.1 (k)))] [] σ := by
  unfold f_X10_which at hf
  refine v_aload_n 0 C dX10_which_0 rfl rfl ?_
  refine v_getR 1 C lk_X10_60 (hB 0 _ rfl) (by decide) rfl dX10_which_1 ?_
  refine v_aload_n 4 C dX10_which_4 rfl rfl ?_
  refine v_getR 5 C lk_X10_10 (hB 0 _ rfl) (by decide) rfl dX10_which_5 ?_
  refine v_callV (st := []) 8 C [.ref (E.2.1 (k + 1))] lm_X10_248 ly_X5_weigh ((hB.sub (sh' := sh_Pile) 91 rfl) 0 _ rfl) (by decide) dX10_which_8 rfl (by decide) rfl (Nat.le_of_ble_eq_true rfl) (fun o1 h1 => m_X5_weigh (k + 91) (k + 1) (hB.sub (sh' := sh_Pile) 91 rfl) (hB.sub (sh' := sh_Game) 1 rfl)  σ o1 h1) hf (fun v1 s2 hf => ?_)
  refine v_aload_n 11 C dX10_which_11 rfl rfl ?_
  refine v_getR 12 C lk_X10_60 (hB 0 _ rfl) (by decide) rfl dX10_which_12 ?_
  refine v_callV (st := []) 15 C [] lm_X10_254 ly_X5_isShort ((hB.sub (sh' := sh_Pile) 91 rfl) 0 _ rfl) (by decide) dX10_which_15 rfl (by decide) rfl (Nat.le_of_ble_eq_true rfl) (fun o1 h1 => m_X5_isShort (k + 91) (hB.sub (sh' := sh_Pile) 91 rfl)  s2 o1 h1) hf (fun v3 s4 hf => ?_)
  refine v_if_eq (tgt := 38) 18 C dX10_which_18 (by decide) hf (fun hf => ?_) (fun hf => ?_)
  · refine v_iconst (v := 0) 38 C dX10_which_38 (by decide) ?_
    exact v_iret 39 C rfl dX10_which_39 hf
  · refine v_aload_n 21 C dX10_which_21 rfl rfl ?_
    refine v_getR 22 C lk_X10_60 (hB 0 _ rfl) (by decide) rfl dX10_which_22 ?_
    refine v_aload_n 25 C dX10_which_25 rfl rfl ?_
    refine v_getR 26 C lk_X10_10 (hB 0 _ rfl) (by decide) rfl dX10_which_26 ?_
    refine v_getR 29 C lk_X10_113 ((hB.sub (sh' := sh_Game) 1 rfl) 0 _ rfl) (by decide) rfl dX10_which_29 ?_
    refine v_callV (st := []) 32 C [.ref (E.2.1 (k + 1 + 1))] lm_X10_258 ly_X5_suspects ((hB.sub (sh' := sh_Pile) 91 rfl) 0 _ rfl) (by decide) dX10_which_32 rfl (by decide) rfl (Nat.le_of_ble_eq_true rfl) (fun o1 h1 => m_X5_suspects (k + 91) (k + 1 + 1) (hB.sub (sh' := sh_Pile) 91 rfl) ((hB.sub (sh' := sh_Game) 1 rfl).sub (sh' := sh_Cut) 1 rfl)  s4 o1 h1) hf (fun v5 s6 hf => ?_)
    refine v_goto (tgt := 39) 35 C dX10_which_35 (by decide) ?_
    exact v_iret 39 C rfl dX10_which_39 hf
theorem m_X10_which {l : Launch} {E : En} {L : List Nat} (k : Nat) (hB : Bk L sh_AuntsPuzzle k) (σ : Sg) (o : Int32 × Sg) (hf : f_X10_which k σ = some o) : Mi l yX10_which cX10_which 1 (some .int) (4) E L [.ref (E.2.1 (k))] σ o :=
  Mi.of RX10 rfl (by decide) (Nat.le_of_ble_eq_true rfl) (fun q hq C => by subst hq; exact k_X10_which_b0 C k hB  σ hf)
def f_X10_mine_b23 (k : Nat) (σ : Sg) : Rs := p_call (f_X10_refuse k (-2) σ) (fun v1 s2 => some (v1, s2))
set_option maxRecDepth 100000 in
set_option maxHeartbeats 4000000 in
theorem k_X10_mine_b23 {q : Mc} {E : En} {L : List Nat} {o : Int32 × Sg} (C : Cx q E L cX10_mine 6 RX10 (some .int) (2)) (k : Nat) (hB : Bk L sh_AuntsPuzzle k) (σ : Sg) (hf : f_X10_mine_b23 k σ = some o) : Vx q E L 6 (some .int) o 23 [(0, .ref (E.2.1 (k)))] [] σ := by
  unfold f_X10_mine_b23 at hf
  refine v_aload_n 23 C dX10_mine_23 rfl rfl ?_
  refine v_bipush (v := (-2)) 24 C dX10_mine_24 (by decide) ?_
  refine v_callV (st := []) 26 C [.int (-2)] lm_X10_83 ly_X10_refuse (hB 0 _ rfl) (by decide) dX10_mine_26 rfl (by decide) rfl (Nat.le_of_ble_eq_true rfl) (fun o1 h1 => m_X10_refuse k hB (-2) σ o1 h1) hf (fun v1 s2 hf => ?_)
  exact v_iret 29 C rfl dX10_mine_29 hf
def f_X10_mine (k : Nat) (x1 : Int32) (x2 : Int32) (σ : Sg) : Rs := p_call (f_X10_isPerson k x1 σ) (fun v1 s2 => if v1 = 0 then (p_call (f_X10_refuse k (-1) s2) (fun v8 s9 => some (v8, s9))) else (if x2 < 0 then (f_X10_mine_b23 k s2) else (if x2 ≤ 1 then (p_call (f_X4_spentByAll (k + 1 + 12) s2) (fun v3 s4 => if v3 = 0 then (some (x2, s4)) else (p_rd s4 (k + 1 + 12 + 3) 6 x1 (fun v5 => p_call (f_X4_commonDivisor v5 v3 s4) (fun v6 s7 => if x2 = 0 then (p_nz v6 (some (v5 / v6, s7))) else (p_nz v6 (some (v3 / v6, s7)))))))) else (f_X10_mine_b23 k s2))))
set_option maxRecDepth 100000 in
set_option maxHeartbeats 4000000 in
theorem k_X10_mine_b0 {q : Mc} {E : En} {L : List Nat} {o : Int32 × Sg} (C : Cx q E L cX10_mine 6 RX10 (some .int) (2)) (k : Nat) (hB : Bk L sh_AuntsPuzzle k) (x1 : Int32) (x2 : Int32) (σ : Sg) (hf : f_X10_mine k x1 x2 σ = some o) : Vx q E L 6 (some .int) o 0 [(0, .ref (E.2.1 (k))), (1, .int x1), (2, .int x2)] [] σ := by
  unfold f_X10_mine at hf
  refine v_aload_n 0 C dX10_mine_0 rfl rfl ?_
  refine v_iload_n 1 C dX10_mine_1 rfl rfl ?_
  refine v_callV (st := []) 2 C [.int x1] lm_X10_126 ly_X10_isPerson (hB 0 _ rfl) (by decide) dX10_mine_2 rfl (by decide) rfl (Nat.le_of_ble_eq_true rfl) (fun o1 h1 => m_X10_isPerson k hB x1 σ o1 h1) hf (fun v1 s2 hf => ?_)
  refine v_if_ne (tgt := 14) 5 C dX10_mine_5 (by decide) hf (fun hf => ?_) (fun hf => ?_)
  · refine v_iload_n 14 C dX10_mine_14 rfl rfl ?_
    refine v_if_lt (tgt := 23) 15 C dX10_mine_15 (by decide) hf (fun hf => ?_) (fun hf => ?_)
    · exact Vx.lv [0] rfl (k_X10_mine_b23 C k hB s2 hf)
    · refine v_iload_n 18 C dX10_mine_18 rfl rfl ?_
      refine v_iconst (v := 1) 19 C dX10_mine_19 (by decide) ?_
      refine v_icmp_le (tgt := 30) 20 C dX10_mine_20 (by decide) hf (fun hf => ?_) (fun hf => ?_)
      · refine v_aload_n 30 C dX10_mine_30 rfl rfl ?_
        refine v_getR 31 C lk_X10_10 (hB 0 _ rfl) (by decide) rfl dX10_mine_31 ?_
        refine v_getR 34 C lk_X10_129 ((hB.sub (sh' := sh_Game) 1 rfl) 0 _ rfl) (by decide) rfl dX10_mine_34 ?_
        refine v_callV (st := []) 37 C [] lm_X10_262 ly_X4_spentByAll (((hB.sub (sh' := sh_Game) 1 rfl).sub (sh' := sh_People) 12 rfl) 0 _ rfl) (by decide) dX10_mine_37 rfl (by decide) rfl (Nat.le_of_ble_eq_true rfl) (fun o1 h1 => m_X4_spentByAll (k + 1 + 12) ((hB.sub (sh' := sh_Game) 1 rfl).sub (sh' := sh_People) 12 rfl)  s2 o1 h1) hf (fun v3 s4 hf => ?_)
        refine v_istore_n (lv' := [(0, .ref (E.2.1 (k))), (1, .int x1), (2, .int x2), (3, .int v3)]) 40 C dX10_mine_40 rfl (by decide) rfl rfl ?_
        refine v_iload_n 41 C dX10_mine_41 rfl rfl ?_
        refine v_if_ne (tgt := 47) 42 C dX10_mine_42 (by decide) hf (fun hf => ?_) (fun hf => ?_)
        · refine v_aload_n 47 C dX10_mine_47 rfl rfl ?_
          refine v_getR 48 C lk_X10_10 (hB 0 _ rfl) (by decide) rfl dX10_mine_48 ?_
          refine v_getR 51 C lk_X10_129 ((hB.sub (sh' := sh_Game) 1 rfl) 0 _ rfl) (by decide) rfl dX10_mine_51 ?_
          refine v_getR 54 C lk_X10_147 (((hB.sub (sh' := sh_Game) 1 rfl).sub (sh' := sh_People) 12 rfl) 0 _ rfl) (by decide) rfl dX10_mine_54 ?_
          refine v_iload_n 57 C dX10_mine_57 rfl rfl ?_
          refine v_iald 58 C (((hB.sub (sh' := sh_Game) 1 rfl).sub (sh' := sh_People) 12 rfl) 3 _ rfl) dX10_mine_58 hf (fun v5 hf => ?_)
          refine v_istore (lv' := [(0, .ref (E.2.1 (k))), (1, .int x1), (2, .int x2), (3, .int v3), (4, .int v5)]) 59 C dX10_mine_59 (by decide) rfl rfl ?_
          refine v_iload 61 C dX10_mine_61 rfl ?_
          refine v_iload_n 63 C dX10_mine_63 rfl rfl ?_
          refine v_callS (st := []) 64 C [.int v5, .int v3] lm_X10_265 lz_X4_commonDivisor dX10_mine_64 rfl (by decide) rfl (Nat.le_of_ble_eq_true rfl) (fun o1 h1 => m_X4_commonDivisor   v5 v3 s4 o1 h1) hf (fun v6 s7 hf => ?_)
          refine v_istore (lv' := [(0, .ref (E.2.1 (k))), (1, .int x1), (2, .int x2), (3, .int v3), (4, .int v5), (5, .int v6)]) 67 C dX10_mine_67 (by decide) rfl rfl ?_
          refine v_iload_n 69 C dX10_mine_69 rfl rfl ?_
          refine v_if_ne (tgt := 81) 70 C dX10_mine_70 (by decide) hf (fun hf => ?_) (fun hf => ?_)
          · refine v_iload_n 81 C dX10_mine_81 rfl rfl ?_
            refine v_iload 82 C dX10_mine_82 rfl ?_
            refine v_idiv 84 C dX10_mine_84 hf (fun hf => ?_)
            exact v_iret 85 C rfl dX10_mine_85 hf
          · refine v_iload 73 C dX10_mine_73 rfl ?_
            refine v_iload 75 C dX10_mine_75 rfl ?_
            refine v_idiv 77 C dX10_mine_77 hf (fun hf => ?_)
            refine v_goto (tgt := 85) 78 C dX10_mine_78 (by decide) ?_
            exact v_iret 85 C rfl dX10_mine_85 hf
        · refine v_iload_n 45 C dX10_mine_45 rfl rfl ?_
          exact v_iret 46 C rfl dX10_mine_46 hf
      · exact Vx.lv [0] rfl (k_X10_mine_b23 C k hB s2 hf)
  · refine v_aload_n 8 C dX10_mine_8 rfl rfl ?_
    refine v_iconst (v := (-1)) 9 C dX10_mine_9 (by decide) ?_
    refine v_callV (st := []) 10 C [.int (-1)] lm_X10_83 ly_X10_refuse (hB 0 _ rfl) (by decide) dX10_mine_10 rfl (by decide) rfl (Nat.le_of_ble_eq_true rfl) (fun o1 h1 => m_X10_refuse k hB (-1) s2 o1 h1) hf (fun v8 s9 hf => ?_)
    exact v_iret 13 C rfl dX10_mine_13 hf
theorem m_X10_mine {l : Launch} {E : En} {L : List Nat} (k : Nat) (hB : Bk L sh_AuntsPuzzle k) (x1 : Int32) (x2 : Int32) (σ : Sg) (o : Int32 × Sg) (hf : f_X10_mine k x1 x2 σ = some o) : Mi l yX10_mine cX10_mine 6 (some .int) (2) E L [.ref (E.2.1 (k)), .int x1, .int x2] σ o :=
  Mi.of RX10 rfl (by decide) (Nat.le_of_ble_eq_true rfl) (fun q hq C => by subst hq; exact k_X10_mine_b0 C k hB x1 x2 σ hf)
def f_X10_hardest_b78 (k : Nat) (r27 : Int32 → Int32 → Int32 → Sg → Rs) (x1 : Int32) (x2 : Int32) (x3 : Int32) (σ : Sg) : Rs := r27 x1 x2 (x3 + 1) σ
set_option maxRecDepth 100000 in
set_option maxHeartbeats 4000000 in
theorem k_X10_hardest_b78 {q : Mc} {E : En} {L : List Nat} {o : Int32 × Sg} (C : Cx q E L cX10_hardest 5 RX10 (some .int) (4)) (k : Nat) (hB : Bk L sh_AuntsPuzzle k) (r27 : Int32 → Int32 → Int32 → Sg → Rs) (hr27 : ∀ (x1 : Int32) (x2 : Int32) (x3 : Int32) (σ : Sg), r27 x1 x2 x3 σ = some o → Vx q E L 5 (some .int) o 27 [(0, .ref (E.2.1 (k))), (1, .int x1), (2, .int x2), (3, .int x3)] [] σ) (x1 : Int32) (x2 : Int32) (x3 : Int32) (σ : Sg) (hf : f_X10_hardest_b78 k r27 x1 x2 x3 σ = some o) : Vx q E L 5 (some .int) o 78 [(0, .ref (E.2.1 (k))), (1, .int x1), (2, .int x2), (3, .int x3)] [] σ := by
  unfold f_X10_hardest_b78 at hf
  refine v_iinc (v := x3 + 1) (lv' := [(0, .ref (E.2.1 (k))), (1, .int x1), (2, .int x2), (3, .int (x3 + 1))]) 78 C dX10_hardest_78 rfl (by rfl) (by decide) rfl rfl ?_
  refine v_goto (tgt := 27) 81 C dX10_hardest_81 (by decide) ?_
  exact Vx.lv [0, 1, 2, 3] rfl (hr27 x1 x2 (x3 + 1) σ hf)
def f_X10_hardest_b27 (k : Nat)  : Nat → Int32 → Int32 → Int32 → Sg → Rs
  | 0, _, _, _, _ => none
  | n + 1, x1, x2, x3, σ => if 6 < x3 then (some (x1, σ)) else (p_call (f_X1_reclass (k + 17 + 1) x3 σ) (fun v1 s2 => p_call (f_X5_seemingPairs (k + 91) (k + 17 + 1) (k + 17 + 6) s2) (fun v3 s4 => if v3 ≤ x2 then (f_X10_hardest_b78 k (f_X10_hardest_b27 k n) x1 x2 x3 s4) else (f_X10_hardest_b78 k (f_X10_hardest_b27 k n) x3 v3 x3 s4))))
set_option maxRecDepth 100000 in
set_option maxHeartbeats 4000000 in
theorem k_X10_hardest_b27 {q : Mc} {E : En} {L : List Nat} {o : Int32 × Sg} (C : Cx q E L cX10_hardest 5 RX10 (some .int) (4)) (k : Nat) (hB : Bk L sh_AuntsPuzzle k) (n : Nat) : ∀ (x1 : Int32) (x2 : Int32) (x3 : Int32) (σ : Sg), f_X10_hardest_b27 k n x1 x2 x3 σ = some o → Vx q E L 5 (some .int) o 27 [(0, .ref (E.2.1 (k))), (1, .int x1), (2, .int x2), (3, .int x3)] [] σ := by
  induction n with
  | zero => intro x1 x2 x3 σ hf; cases (show (none : Rs) = some o from hf)
  | succ n ih =>
    intro x1 x2 x3 σ hf
    rw [f_X10_hardest_b27] at hf
    refine v_iload_n 27 C dX10_hardest_27 rfl rfl ?_
    refine v_bipush (v := 6) 28 C dX10_hardest_28 (by decide) ?_
    refine v_icmp_gt (tgt := 84) 30 C dX10_hardest_30 (by decide) hf (fun hf => ?_) (fun hf => ?_)
    · refine v_iload_n 84 C dX10_hardest_84 rfl rfl ?_
      exact v_iret 85 C rfl dX10_hardest_85 hf
    · refine v_aload_n 33 C dX10_hardest_33 rfl rfl ?_
      refine v_getR 34 C lk_X10_16 (hB 0 _ rfl) (by decide) rfl dX10_hardest_34 ?_
      refine v_getR 37 C lk_X10_113 ((hB.sub (sh' := sh_Game) 17 rfl) 0 _ rfl) (by decide) rfl dX10_hardest_37 ?_
      refine v_iload_n 40 C dX10_hardest_40 rfl rfl ?_
      refine v_callV (st := []) 41 C [.int x3] lm_X10_271 ly_X1_reclass (((hB.sub (sh' := sh_Game) 17 rfl).sub (sh' := sh_Cut) 1 rfl) 0 _ rfl) (by decide) dX10_hardest_41 rfl (by decide) rfl (Nat.le_of_ble_eq_true rfl) (fun o1 h1 => m_X1_reclass (k + 17 + 1) ((hB.sub (sh' := sh_Game) 17 rfl).sub (sh' := sh_Cut) 1 rfl) x3 σ o1 h1) hf (fun v1 s2 hf => ?_)
      refine v_aload_n 44 C dX10_hardest_44 rfl rfl ?_
      refine v_getR 45 C lk_X10_60 (hB 0 _ rfl) (by decide) rfl dX10_hardest_45 ?_
      refine v_aload_n 48 C dX10_hardest_48 rfl rfl ?_
      refine v_getR 49 C lk_X10_16 (hB 0 _ rfl) (by decide) rfl dX10_hardest_49 ?_
      refine v_getR 52 C lk_X10_113 ((hB.sub (sh' := sh_Game) 17 rfl) 0 _ rfl) (by decide) rfl dX10_hardest_52 ?_
      refine v_aload_n 55 C dX10_hardest_55 rfl rfl ?_
      refine v_getR 56 C lk_X10_16 (hB 0 _ rfl) (by decide) rfl dX10_hardest_56 ?_
      refine v_getR 59 C lk_X10_141 ((hB.sub (sh' := sh_Game) 17 rfl) 0 _ rfl) (by decide) rfl dX10_hardest_59 ?_
      refine v_callV (st := []) 62 C [.ref (E.2.1 (k + 17 + 1)), .ref (E.2.1 (k + 17 + 6))] lm_X10_235 ly_X5_seemingPairs ((hB.sub (sh' := sh_Pile) 91 rfl) 0 _ rfl) (by decide) dX10_hardest_62 rfl (by decide) rfl (Nat.le_of_ble_eq_true rfl) (fun o1 h1 => m_X5_seemingPairs (k + 91) (k + 17 + 1) (k + 17 + 6) (hB.sub (sh' := sh_Pile) 91 rfl) ((hB.sub (sh' := sh_Game) 17 rfl).sub (sh' := sh_Cut) 1 rfl) ((hB.sub (sh' := sh_Game) 17 rfl).sub (sh' := sh_Board) 6 rfl)  s2 o1 h1) hf (fun v3 s4 hf => ?_)
      refine v_istore (lv' := [(0, .ref (E.2.1 (k))), (1, .int x1), (2, .int x2), (3, .int x3), (4, .int v3)]) 65 C dX10_hardest_65 (by decide) rfl rfl ?_
      refine v_iload 67 C dX10_hardest_67 rfl ?_
      refine v_iload_n 69 C dX10_hardest_69 rfl rfl ?_
      refine v_icmp_le (tgt := 78) 70 C dX10_hardest_70 (by decide) hf (fun hf => ?_) (fun hf => ?_)
      · exact Vx.lv [0, 1, 2, 3] rfl (k_X10_hardest_b78 C k hB (f_X10_hardest_b27 k n) ih x1 x2 x3 s4 hf)
      · refine v_iload 73 C dX10_hardest_73 rfl ?_
        refine v_istore_n (lv' := [(0, .ref (E.2.1 (k))), (1, .int x1), (2, .int v3), (3, .int x3), (4, .int v3)]) 75 C dX10_hardest_75 rfl (by decide) rfl rfl ?_
        refine v_iload_n 76 C dX10_hardest_76 rfl rfl ?_
        refine v_istore_n (lv' := [(0, .ref (E.2.1 (k))), (1, .int x3), (2, .int v3), (3, .int x3), (4, .int v3)]) 77 C dX10_hardest_77 rfl (by decide) rfl rfl ?_
        exact Vx.lv [0, 1, 2, 3] rfl (k_X10_hardest_b78 C k hB (f_X10_hardest_b27 k n) ih x3 v3 x3 s4 hf)
def f_X10_hardest (k : Nat) (σ : Sg) : Rs := p_call (f_X3_copyFrom (k + 17) (k + 1) σ) (fun v1 s2 => p_call (f_X0_clear (k + 17 + 6) s2) (fun v3 s4 => f_X10_hardest_b27 k fu 0 (-1) 1 s4))
set_option maxRecDepth 100000 in
set_option maxHeartbeats 4000000 in
theorem k_X10_hardest_b0 {q : Mc} {E : En} {L : List Nat} {o : Int32 × Sg} (C : Cx q E L cX10_hardest 5 RX10 (some .int) (4)) (k : Nat) (hB : Bk L sh_AuntsPuzzle k) (σ : Sg) (hf : f_X10_hardest k σ = some o) : Vx q E L 5 (some .int) o 0 [(0, .ref (E.2.1 (k)))] [] σ := by
  unfold f_X10_hardest at hf
  refine v_iconst (v := 0) 0 C dX10_hardest_0 (by decide) ?_
  refine v_istore_n (lv' := [(0, .ref (E.2.1 (k))), (1, .int 0)]) 1 C dX10_hardest_1 rfl (by decide) rfl rfl ?_
  refine v_iconst (v := (-1)) 2 C dX10_hardest_2 (by decide) ?_
  refine v_istore_n (lv' := [(0, .ref (E.2.1 (k))), (1, .int 0), (2, .int (-1))]) 3 C dX10_hardest_3 rfl (by decide) rfl rfl ?_
  refine v_aload_n 4 C dX10_hardest_4 rfl rfl ?_
  refine v_getR 5 C lk_X10_16 (hB 0 _ rfl) (by decide) rfl dX10_hardest_5 ?_
  refine v_aload_n 8 C dX10_hardest_8 rfl rfl ?_
  refine v_getR 9 C lk_X10_10 (hB 0 _ rfl) (by decide) rfl dX10_hardest_9 ?_
  refine v_callV (st := []) 12 C [.ref (E.2.1 (k + 1))] lm_X10_94 ly_X3_copyFrom ((hB.sub (sh' := sh_Game) 17 rfl) 0 _ rfl) (by decide) dX10_hardest_12 rfl (by decide) rfl (Nat.le_of_ble_eq_true rfl) (fun o1 h1 => m_X3_copyFrom (k + 17) (k + 1) (hB.sub (sh' := sh_Game) 17 rfl) (hB.sub (sh' := sh_Game) 1 rfl)  σ o1 h1) hf (fun v1 s2 hf => ?_)
  refine v_aload_n 15 C dX10_hardest_15 rfl rfl ?_
  refine v_getR 16 C lk_X10_16 (hB 0 _ rfl) (by decide) rfl dX10_hardest_16 ?_
  refine v_getR 19 C lk_X10_141 ((hB.sub (sh' := sh_Game) 17 rfl) 0 _ rfl) (by decide) rfl dX10_hardest_19 ?_
  refine v_callV (st := []) 22 C [] lm_X10_268 ly_X0_clear (((hB.sub (sh' := sh_Game) 17 rfl).sub (sh' := sh_Board) 6 rfl) 0 _ rfl) (by decide) dX10_hardest_22 rfl (by decide) rfl (Nat.le_of_ble_eq_true rfl) (fun o1 h1 => m_X0_clear (k + 17 + 6) ((hB.sub (sh' := sh_Game) 17 rfl).sub (sh' := sh_Board) 6 rfl)  s2 o1 h1) hf (fun v3 s4 hf => ?_)
  refine v_iconst (v := 1) 25 C dX10_hardest_25 (by decide) ?_
  refine v_istore_n (lv' := [(0, .ref (E.2.1 (k))), (1, .int 0), (2, .int (-1)), (3, .int 1)]) 26 C dX10_hardest_26 rfl (by decide) rfl rfl ?_
  exact Vx.lv [0, 1, 2, 3] rfl (k_X10_hardest_b27 C k hB fu 0 (-1) 1 s4 hf)
theorem m_X10_hardest {l : Launch} {E : En} {L : List Nat} (k : Nat) (hB : Bk L sh_AuntsPuzzle k) (σ : Sg) (o : Int32 × Sg) (hf : f_X10_hardest k σ = some o) : Mi l yX10_hardest cX10_hardest 5 (some .int) (4) E L [.ref (E.2.1 (k))] σ o :=
  Mi.of RX10 rfl (by decide) (Nat.le_of_ble_eq_true rfl) (fun q hq C => by subst hq; exact k_X10_hardest_b0 C k hB  σ hf)
def f_X10_keeper_b9 (k : Nat) (σ : Sg) : Rs := p_call (f_X10_refuse k (-4) σ) (fun v1 s2 => some (v1, s2))
set_option maxRecDepth 100000 in
set_option maxHeartbeats 4000000 in
theorem k_X10_keeper_b9 {q : Mc} {E : En} {L : List Nat} {o : Int32 × Sg} (C : Cx q E L cX10_keeper 3 RX10 (some .int) (2)) (k : Nat) (hB : Bk L sh_AuntsPuzzle k) (σ : Sg) (hf : f_X10_keeper_b9 k σ = some o) : Vx q E L 3 (some .int) o 9 [(0, .ref (E.2.1 (k)))] [] σ := by
  unfold f_X10_keeper_b9 at hf
  refine v_aload_n 9 C dX10_keeper_9 rfl rfl ?_
  refine v_bipush (v := (-4)) 10 C dX10_keeper_10 (by decide) ?_
  refine v_callV (st := []) 12 C [.int (-4)] lm_X10_83 ly_X10_refuse (hB 0 _ rfl) (by decide) dX10_keeper_12 rfl (by decide) rfl (Nat.le_of_ble_eq_true rfl) (fun o1 h1 => m_X10_refuse k hB (-4) σ o1 h1) hf (fun v1 s2 hf => ?_)
  exact v_iret 15 C rfl dX10_keeper_15 hf
def f_X10_keeper_b29 (k : Nat) (σ : Sg) : Rs := p_call (f_X10_refuse k (-6) σ) (fun v1 s2 => some (v1, s2))
set_option maxRecDepth 100000 in
set_option maxHeartbeats 4000000 in
theorem k_X10_keeper_b29 {q : Mc} {E : En} {L : List Nat} {o : Int32 × Sg} (C : Cx q E L cX10_keeper 3 RX10 (some .int) (2)) (k : Nat) (hB : Bk L sh_AuntsPuzzle k) (σ : Sg) (hf : f_X10_keeper_b29 k σ = some o) : Vx q E L 3 (some .int) o 29 [(0, .ref (E.2.1 (k)))] [] σ := by
  unfold f_X10_keeper_b29 at hf
  refine v_aload_n 29 C dX10_keeper_29 rfl rfl ?_
  refine v_bipush (v := (-6)) 30 C dX10_keeper_30 (by decide) ?_
  refine v_callV (st := []) 32 C [.int (-6)] lm_X10_83 ly_X10_refuse (hB 0 _ rfl) (by decide) dX10_keeper_32 rfl (by decide) rfl (Nat.le_of_ble_eq_true rfl) (fun o1 h1 => m_X10_refuse k hB (-6) σ o1 h1) hf (fun v1 s2 hf => ?_)
  exact v_iret 35 C rfl dX10_keeper_35 hf
def f_X10_keeper (k : Nat) (x1 : Int32) (x2 : Int32) (σ : Sg) : Rs := if x1 < 0 then (f_X10_keeper_b9 k σ) else (if 1 ≤ x2 then (if 999 < x1 then (f_X10_keeper_b29 k σ) else (if x2 ≤ 99 then (p_nz (x2 + 1) (if (x1 - x1 / (x2 + 1) * (x2 + 1)) = 0 then (some (0, σ)) else (some (1, σ)))) else (f_X10_keeper_b29 k σ))) else (f_X10_keeper_b9 k σ))
set_option maxRecDepth 100000 in
set_option maxHeartbeats 4000000 in
theorem k_X10_keeper_b0 {q : Mc} {E : En} {L : List Nat} {o : Int32 × Sg} (C : Cx q E L cX10_keeper 3 RX10 (some .int) (2)) (k : Nat) (hB : Bk L sh_AuntsPuzzle k) (x1 : Int32) (x2 : Int32) (σ : Sg) (hf : f_X10_keeper k x1 x2 σ = some o) : Vx q E L 3 (some .int) o 0 [(0, .ref (E.2.1 (k))), (1, .int x1), (2, .int x2)] [] σ := by
  unfold f_X10_keeper at hf
  refine v_iload_n 0 C dX10_keeper_0 rfl rfl ?_
  refine v_if_lt (tgt := 9) 1 C dX10_keeper_1 (by decide) hf (fun hf => ?_) (fun hf => ?_)
  · exact Vx.lv [0] rfl (k_X10_keeper_b9 C k hB σ hf)
  · refine v_iload_n 4 C dX10_keeper_4 rfl rfl ?_
    refine v_iconst (v := 1) 5 C dX10_keeper_5 (by decide) ?_
    refine v_icmp_ge (tgt := 16) 6 C dX10_keeper_6 (by decide) hf (fun hf => ?_) (fun hf => ?_)
    · refine v_iload_n 16 C dX10_keeper_16 rfl rfl ?_
      refine v_sipush (v := 999) 17 C dX10_keeper_17 (by decide) ?_
      refine v_icmp_gt (tgt := 29) 20 C dX10_keeper_20 (by decide) hf (fun hf => ?_) (fun hf => ?_)
      · exact Vx.lv [0] rfl (k_X10_keeper_b29 C k hB σ hf)
      · refine v_iload_n 23 C dX10_keeper_23 rfl rfl ?_
        refine v_bipush (v := 99) 24 C dX10_keeper_24 (by decide) ?_
        refine v_icmp_le (tgt := 36) 26 C dX10_keeper_26 (by decide) hf (fun hf => ?_) (fun hf => ?_)
        · refine v_iload_n 36 C dX10_keeper_36 rfl rfl ?_
          refine v_iload_n 37 C dX10_keeper_37 rfl rfl ?_
          refine v_iconst (v := 1) 38 C dX10_keeper_38 (by decide) ?_
          refine v_iadd 39 C dX10_keeper_39 ?_
          refine v_irem 40 C dX10_keeper_40 hf (fun hf => ?_)
          refine v_if_ne (tgt := 48) 41 C dX10_keeper_41 (by decide) hf (fun hf => ?_) (fun hf => ?_)
          · refine v_iconst (v := 1) 48 C dX10_keeper_48 (by decide) ?_
            exact v_iret 49 C rfl dX10_keeper_49 hf
          · refine v_iconst (v := 0) 44 C dX10_keeper_44 (by decide) ?_
            refine v_goto (tgt := 49) 45 C dX10_keeper_45 (by decide) ?_
            exact v_iret 49 C rfl dX10_keeper_49 hf
        · exact Vx.lv [0] rfl (k_X10_keeper_b29 C k hB σ hf)
    · exact Vx.lv [0] rfl (k_X10_keeper_b9 C k hB σ hf)
theorem m_X10_keeper {l : Launch} {E : En} {L : List Nat} (k : Nat) (hB : Bk L sh_AuntsPuzzle k) (x1 : Int32) (x2 : Int32) (σ : Sg) (o : Int32 × Sg) (hf : f_X10_keeper k x1 x2 σ = some o) : Mi l yX10_keeper cX10_keeper 3 (some .int) (2) E L [.ref (E.2.1 (k)), .int x1, .int x2] σ o :=
  Mi.of RX10 rfl (by decide) (Nat.le_of_ble_eq_true rfl) (fun q hq C => by subst hq; exact k_X10_keeper_b0 C k hB x1 x2 σ hf)
def f_X10_evening (k : Nat) (x1 : Int32) (x2 : Int32) (σ : Sg) : Rs := if 1 ≤ x1 then (if x1 ≤ 200 then (if (σ (k + 1 + 12) 0) = 0 then (p_call (f_X10_refuse k (-3) σ) (fun v3 s4 => some (v3, s4))) else (p_call (f_X2_spend (k + 95) (k + 1) x1 x2 σ) (fun v1 s2 => some (v1, s2)))) else (p_call (f_X10_refuse k (-6) σ) (fun v5 s6 => some (v5, s6)))) else (p_call (f_X10_refuse k (-4) σ) (fun v7 s8 => some (v7, s8)))
set_option maxRecDepth 100000 in
set_option maxHeartbeats 4000000 in
theorem k_X10_evening_b0 {q : Mc} {E : En} {L : List Nat} {o : Int32 × Sg} (C : Cx q E L cX10_evening 3 RX10 (some .int) (5)) (k : Nat) (hB : Bk L sh_AuntsPuzzle k) (x1 : Int32) (x2 : Int32) (σ : Sg) (hf : f_X10_evening k x1 x2 σ = some o) : Vx q E L 3 (some .int) o 0 [(0, .ref (E.2.1 (k))), (1, .int x1), (2, .int x2)] [] σ := by
  unfold f_X10_evening at hf
  refine v_iload_n 0 C dX10_evening_0 rfl rfl ?_
  refine v_iconst (v := 1) 1 C dX10_evening_1 (by decide) ?_
  refine v_icmp_ge (tgt := 12) 2 C dX10_evening_2 (by decide) hf (fun hf => ?_) (fun hf => ?_)
  · refine v_iload_n 12 C dX10_evening_12 rfl rfl ?_
    refine v_sipush (v := 200) 13 C dX10_evening_13 (by decide) ?_
    refine v_icmp_le (tgt := 26) 16 C dX10_evening_16 (by decide) hf (fun hf => ?_) (fun hf => ?_)
    · refine v_aload_n 26 C dX10_evening_26 rfl rfl ?_
      refine v_getR 27 C lk_X10_10 (hB 0 _ rfl) (by decide) rfl dX10_evening_27 ?_
      refine v_getR 30 C lk_X10_129 ((hB.sub (sh' := sh_Game) 1 rfl) 0 _ rfl) (by decide) rfl dX10_evening_30 ?_
      refine v_getI (dum := 0) 33 C lk_X10_229 (((hB.sub (sh' := sh_Game) 1 rfl).sub (sh' := sh_People) 12 rfl) 0 _ rfl) (by decide) rfl dX10_evening_33 ?_
      refine v_if_ne (tgt := 46) 36 C dX10_evening_36 (by decide) hf (fun hf => ?_) (fun hf => ?_)
      · refine v_aload_n 46 C dX10_evening_46 rfl rfl ?_
        refine v_getR 47 C lk_X10_67 (hB 0 _ rfl) (by decide) rfl dX10_evening_47 ?_
        refine v_aload_n 50 C dX10_evening_50 rfl rfl ?_
        refine v_getR 51 C lk_X10_10 (hB 0 _ rfl) (by decide) rfl dX10_evening_51 ?_
        refine v_iload_n 54 C dX10_evening_54 rfl rfl ?_
        refine v_iload_n 55 C dX10_evening_55 rfl rfl ?_
        refine v_callV (st := []) 56 C [.ref (E.2.1 (k + 1)), .int x1, .int x2] lm_X10_274 ly_X2_spend ((hB.sub (sh' := sh_Evening) 95 rfl) 0 _ rfl) (by decide) dX10_evening_56 rfl (by decide) rfl (Nat.le_of_ble_eq_true rfl) (fun o1 h1 => m_X2_spend (k + 95) (k + 1) (hB.sub (sh' := sh_Evening) 95 rfl) (hB.sub (sh' := sh_Game) 1 rfl) x1 x2 σ o1 h1) hf (fun v1 s2 hf => ?_)
        exact v_iret 59 C rfl dX10_evening_59 hf
      · refine v_aload_n 39 C dX10_evening_39 rfl rfl ?_
        refine v_bipush (v := (-3)) 40 C dX10_evening_40 (by decide) ?_
        refine v_callV (st := []) 42 C [.int (-3)] lm_X10_83 ly_X10_refuse (hB 0 _ rfl) (by decide) dX10_evening_42 rfl (by decide) rfl (Nat.le_of_ble_eq_true rfl) (fun o1 h1 => m_X10_refuse k hB (-3) σ o1 h1) hf (fun v3 s4 hf => ?_)
        exact v_iret 45 C rfl dX10_evening_45 hf
    · refine v_aload_n 19 C dX10_evening_19 rfl rfl ?_
      refine v_bipush (v := (-6)) 20 C dX10_evening_20 (by decide) ?_
      refine v_callV (st := []) 22 C [.int (-6)] lm_X10_83 ly_X10_refuse (hB 0 _ rfl) (by decide) dX10_evening_22 rfl (by decide) rfl (Nat.le_of_ble_eq_true rfl) (fun o1 h1 => m_X10_refuse k hB (-6) σ o1 h1) hf (fun v5 s6 hf => ?_)
      exact v_iret 25 C rfl dX10_evening_25 hf
  · refine v_aload_n 5 C dX10_evening_5 rfl rfl ?_
    refine v_bipush (v := (-4)) 6 C dX10_evening_6 (by decide) ?_
    refine v_callV (st := []) 8 C [.int (-4)] lm_X10_83 ly_X10_refuse (hB 0 _ rfl) (by decide) dX10_evening_8 rfl (by decide) rfl (Nat.le_of_ble_eq_true rfl) (fun o1 h1 => m_X10_refuse k hB (-4) σ o1 h1) hf (fun v7 s8 hf => ?_)
    exact v_iret 11 C rfl dX10_evening_11 hf
theorem m_X10_evening {l : Launch} {E : En} {L : List Nat} (k : Nat) (hB : Bk L sh_AuntsPuzzle k) (x1 : Int32) (x2 : Int32) (σ : Sg) (o : Int32 × Sg) (hf : f_X10_evening k x1 x2 σ = some o) : Mi l yX10_evening cX10_evening 3 (some .int) (5) E L [.ref (E.2.1 (k)), .int x1, .int x2] σ o :=
  Mi.of RX10 rfl (by decide) (Nat.le_of_ble_eq_true rfl) (fun q hq C => by subst hq; exact k_X10_evening_b0 C k hB x1 x2 σ hf)
def f_X10_row_b29 (k : Nat) (σ : Sg) : Rs := p_call (f_X10_refuse k (-6) σ) (fun v1 s2 => some (v1, s2))
set_option maxRecDepth 100000 in
set_option maxHeartbeats 4000000 in
theorem k_X10_row_b29 {q : Mc} {E : En} {L : List Nat} {o : Int32 × Sg} (C : Cx q E L cX10_row 2 RX10 (some .int) (2)) (k : Nat) (hB : Bk L sh_AuntsPuzzle k) (σ : Sg) (hf : f_X10_row_b29 k σ = some o) : Vx q E L 2 (some .int) o 29 [(0, .ref (E.2.1 (k)))] [] σ := by
  unfold f_X10_row_b29 at hf
  refine v_aload_n 29 C dX10_row_29 rfl rfl ?_
  refine v_bipush (v := (-6)) 30 C dX10_row_30 (by decide) ?_
  refine v_callV (st := []) 32 C [.int (-6)] lm_X10_83 ly_X10_refuse (hB 0 _ rfl) (by decide) dX10_row_32 rfl (by decide) rfl (Nat.le_of_ble_eq_true rfl) (fun o1 h1 => m_X10_refuse k hB (-6) σ o1 h1) hf (fun v1 s2 hf => ?_)
  exact v_iret 35 C rfl dX10_row_35 hf
def f_X10_row (k : Nat) (x1 : Int32) (σ : Sg) : Rs := if 0 ≤ x1 then (if 99 < x1 then (f_X10_row_b29 k σ) else (if (σ (k + 57) 1) < 16 then (p_call (f_X8_add (k + 57) x1 σ) (fun v1 s2 => some (v1, s2))) else (f_X10_row_b29 k σ))) else (p_call (f_X10_refuse k (-4) σ) (fun v3 s4 => some (v3, s4)))
set_option maxRecDepth 100000 in
set_option maxHeartbeats 4000000 in
theorem k_X10_row_b0 {q : Mc} {E : En} {L : List Nat} {o : Int32 × Sg} (C : Cx q E L cX10_row 2 RX10 (some .int) (2)) (k : Nat) (hB : Bk L sh_AuntsPuzzle k) (x1 : Int32) (σ : Sg) (hf : f_X10_row k x1 σ = some o) : Vx q E L 2 (some .int) o 0 [(0, .ref (E.2.1 (k))), (1, .int x1)] [] σ := by
  unfold f_X10_row at hf
  refine v_iload_n 0 C dX10_row_0 rfl rfl ?_
  refine v_if_ge (tgt := 11) 1 C dX10_row_1 (by decide) hf (fun hf => ?_) (fun hf => ?_)
  · refine v_iload_n 11 C dX10_row_11 rfl rfl ?_
    refine v_bipush (v := 99) 12 C dX10_row_12 (by decide) ?_
    refine v_icmp_gt (tgt := 29) 14 C dX10_row_14 (by decide) hf (fun hf => ?_) (fun hf => ?_)
    · exact Vx.lv [0] rfl (k_X10_row_b29 C k hB σ hf)
    · refine v_aload_n 17 C dX10_row_17 rfl rfl ?_
      refine v_getR 18 C lk_X10_39 (hB 0 _ rfl) (by decide) rfl dX10_row_18 ?_
      refine v_getI (dum := 0) 21 C lk_X10_277 ((hB.sub (sh' := sh_Told) 57 rfl) 0 _ rfl) (by decide) rfl dX10_row_21 ?_
      refine v_bipush (v := 16) 24 C dX10_row_24 (by decide) ?_
      refine v_icmp_lt (tgt := 36) 26 C dX10_row_26 (by decide) hf (fun hf => ?_) (fun hf => ?_)
      · refine v_aload_n 36 C dX10_row_36 rfl rfl ?_
        refine v_getR 37 C lk_X10_39 (hB 0 _ rfl) (by decide) rfl dX10_row_37 ?_
        refine v_iload_n 40 C dX10_row_40 rfl rfl ?_
        refine v_callV (st := []) 41 C [.int x1] lm_X10_278 ly_X8_add ((hB.sub (sh' := sh_Told) 57 rfl) 0 _ rfl) (by decide) dX10_row_41 rfl (by decide) rfl (Nat.le_of_ble_eq_true rfl) (fun o1 h1 => m_X8_add (k + 57) (hB.sub (sh' := sh_Told) 57 rfl) x1 σ o1 h1) hf (fun v1 s2 hf => ?_)
        exact v_iret 44 C rfl dX10_row_44 hf
      · exact Vx.lv [0] rfl (k_X10_row_b29 C k hB σ hf)
  · refine v_aload_n 4 C dX10_row_4 rfl rfl ?_
    refine v_bipush (v := (-4)) 5 C dX10_row_5 (by decide) ?_
    refine v_callV (st := []) 7 C [.int (-4)] lm_X10_83 ly_X10_refuse (hB 0 _ rfl) (by decide) dX10_row_7 rfl (by decide) rfl (Nat.le_of_ble_eq_true rfl) (fun o1 h1 => m_X10_refuse k hB (-4) σ o1 h1) hf (fun v3 s4 hf => ?_)
    exact v_iret 10 C rfl dX10_row_10 hf
theorem m_X10_row {l : Launch} {E : En} {L : List Nat} (k : Nat) (hB : Bk L sh_AuntsPuzzle k) (x1 : Int32) (σ : Sg) (o : Int32 × Sg) (hf : f_X10_row k x1 σ = some o) : Mi l yX10_row cX10_row 2 (some .int) (2) E L [.ref (E.2.1 (k)), .int x1] σ o :=
  Mi.of RX10 rfl (by decide) (Nat.le_of_ble_eq_true rfl) (fun q hq C => by subst hq; exact k_X10_row_b0 C k hB x1 σ hf)
def f_X10_judge (k : Nat) (σ : Sg) : Rs := p_call (f_X8_compareWith (k + 57) (k + 1) σ) (fun v1 s2 => p_put s2 (k + 57) 1 0 (fun s3 => some (v1, s3)))
set_option maxRecDepth 100000 in
set_option maxHeartbeats 4000000 in
theorem k_X10_judge_b0 {q : Mc} {E : En} {L : List Nat} {o : Int32 × Sg} (C : Cx q E L cX10_judge 2 RX10 (some .int) (3)) (k : Nat) (hB : Bk L sh_AuntsPuzzle k) (σ : Sg) (hf : f_X10_judge k σ = some o) : Vx q E L 2 (some .int) o 0 [(0, .ref (E.2.1 (k)))] [] σ := by
  unfold f_X10_judge at hf
  refine v_aload_n 0 C dX10_judge_0 rfl rfl ?_
  refine v_getR 1 C lk_X10_39 (hB 0 _ rfl) (by decide) rfl dX10_judge_1 ?_
  refine v_aload_n 4 C dX10_judge_4 rfl rfl ?_
  refine v_getR 5 C lk_X10_10 (hB 0 _ rfl) (by decide) rfl dX10_judge_5 ?_
  refine v_callV (st := []) 8 C [.ref (E.2.1 (k + 1))] lm_X10_281 ly_X8_compareWith ((hB.sub (sh' := sh_Told) 57 rfl) 0 _ rfl) (by decide) dX10_judge_8 rfl (by decide) rfl (Nat.le_of_ble_eq_true rfl) (fun o1 h1 => m_X8_compareWith (k + 57) (k + 1) (hB.sub (sh' := sh_Told) 57 rfl) (hB.sub (sh' := sh_Game) 1 rfl)  σ o1 h1) hf (fun v1 s2 hf => ?_)
  refine v_istore_n (lv' := [(0, .ref (E.2.1 (k))), (1, .int v1)]) 11 C dX10_judge_11 rfl (by decide) rfl rfl ?_
  refine v_aload_n 12 C dX10_judge_12 rfl rfl ?_
  refine v_getR 13 C lk_X10_39 (hB 0 _ rfl) (by decide) rfl dX10_judge_13 ?_
  refine v_iconst (v := 0) 16 C dX10_judge_16 (by decide) ?_
  refine v_putI 17 C lp_X10_277 ((hB.sub (sh' := sh_Told) 57 rfl) 0 _ rfl) (by decide) rfl dX10_judge_17 hf (fun s3 hf => ?_)
  refine v_iload_n 20 C dX10_judge_20 rfl rfl ?_
  exact v_iret 21 C rfl dX10_judge_21 hf
theorem m_X10_judge {l : Launch} {E : En} {L : List Nat} (k : Nat) (hB : Bk L sh_AuntsPuzzle k) (σ : Sg) (o : Int32 × Sg) (hf : f_X10_judge k σ = some o) : Mi l yX10_judge cX10_judge 2 (some .int) (3) E L [.ref (E.2.1 (k))] σ o :=
  Mi.of RX10 rfl (by decide) (Nat.le_of_ble_eq_true rfl) (fun q hq C => by subst hq; exact k_X10_judge_b0 C k hB  σ hf)
def f_X10_image (k : Nat) (σ : Sg) : Rs := p_call (f_X3_copyFrom (k + 33) (k + 1) σ) (fun v1 s2 => p_bo 1 (p_put s2 (k) 11 1 (fun s3 => p_call (f_X0_howManyFilled (k + 1 + 6) s3) (fun v4 s5 => some (v4, s5)))))
set_option maxRecDepth 100000 in
set_option maxHeartbeats 4000000 in
theorem k_X10_image_b0 {q : Mc} {E : En} {L : List Nat} {o : Int32 × Sg} (C : Cx q E L cX10_image 1 RX10 (some .int) (3)) (k : Nat) (hB : Bk L sh_AuntsPuzzle k) (σ : Sg) (hf : f_X10_image k σ = some o) : Vx q E L 1 (some .int) o 0 [(0, .ref (E.2.1 (k)))] [] σ := by
  unfold f_X10_image at hf
  refine v_aload_n 0 C dX10_image_0 rfl rfl ?_
  refine v_getR 1 C lk_X10_19 (hB 0 _ rfl) (by decide) rfl dX10_image_1 ?_
  refine v_aload_n 4 C dX10_image_4 rfl rfl ?_
  refine v_getR 5 C lk_X10_10 (hB 0 _ rfl) (by decide) rfl dX10_image_5 ?_
  refine v_callV (st := []) 8 C [.ref (E.2.1 (k + 1))] lm_X10_94 ly_X3_copyFrom ((hB.sub (sh' := sh_Game) 33 rfl) 0 _ rfl) (by decide) dX10_image_8 rfl (by decide) rfl (Nat.le_of_ble_eq_true rfl) (fun o1 h1 => m_X3_copyFrom (k + 33) (k + 1) (hB.sub (sh' := sh_Game) 33 rfl) (hB.sub (sh' := sh_Game) 1 rfl)  σ o1 h1) hf (fun v1 s2 hf => ?_)
  refine v_aload_n 11 C dX10_image_11 rfl rfl ?_
  refine v_iconst (v := 1) 12 C dX10_image_12 (by decide) ?_
  refine v_putZ 13 C lp_X10_75 (hB 0 _ rfl) (by decide) rfl dX10_image_13 hf (fun s3 hf => ?_)
  refine v_aload_n 16 C dX10_image_16 rfl rfl ?_
  refine v_getR 17 C lk_X10_10 (hB 0 _ rfl) (by decide) rfl dX10_image_17 ?_
  refine v_getR 20 C lk_X10_141 ((hB.sub (sh' := sh_Game) 1 rfl) 0 _ rfl) (by decide) rfl dX10_image_20 ?_
  refine v_callV (st := []) 23 C [] lm_X10_284 ly_X0_howManyFilled (((hB.sub (sh' := sh_Game) 1 rfl).sub (sh' := sh_Board) 6 rfl) 0 _ rfl) (by decide) dX10_image_23 rfl (by decide) rfl (Nat.le_of_ble_eq_true rfl) (fun o1 h1 => m_X0_howManyFilled (k + 1 + 6) ((hB.sub (sh' := sh_Game) 1 rfl).sub (sh' := sh_Board) 6 rfl)  s3 o1 h1) hf (fun v4 s5 hf => ?_)
  exact v_iret 26 C rfl dX10_image_26 hf
theorem m_X10_image {l : Launch} {E : En} {L : List Nat} (k : Nat) (hB : Bk L sh_AuntsPuzzle k) (σ : Sg) (o : Int32 × Sg) (hf : f_X10_image k σ = some o) : Mi l yX10_image cX10_image 1 (some .int) (3) E L [.ref (E.2.1 (k))] σ o :=
  Mi.of RX10 rfl (by decide) (Nat.le_of_ble_eq_true rfl) (fun q hq C => by subst hq; exact k_X10_image_b0 C k hB  σ hf)
def f_X10_on (k : Nat) (σ : Sg) : Rs := if (σ (k) 11) = 0 then (p_call (f_X10_refuse k (-3) σ) (fun v6 s7 => some (v6, s7))) else (p_call (f_X3_copyFrom (k + 1) (k + 33) σ) (fun v1 s2 => p_bo 0 (p_put s2 (k + 59) 2 0 (fun s3 => p_call (f_X0_howManyFilled (k + 1 + 6) s3) (fun v4 s5 => some (v4, s5))))))
set_option maxRecDepth 100000 in
set_option maxHeartbeats 4000000 in
theorem k_X10_on_b0 {q : Mc} {E : En} {L : List Nat} {o : Int32 × Sg} (C : Cx q E L cX10_on 1 RX10 (some .int) (3)) (k : Nat) (hB : Bk L sh_AuntsPuzzle k) (σ : Sg) (hf : f_X10_on k σ = some o) : Vx q E L 1 (some .int) o 0 [(0, .ref (E.2.1 (k)))] [] σ := by
  unfold f_X10_on at hf
  refine v_aload_n 0 C dX10_on_0 rfl rfl ?_
  refine v_getI (dum := 0) 1 C lk_X10_75 (hB 0 _ rfl) (by decide) rfl dX10_on_1 ?_
  refine v_if_ne (tgt := 14) 4 C dX10_on_4 (by decide) hf (fun hf => ?_) (fun hf => ?_)
  · refine v_aload_n 14 C dX10_on_14 rfl rfl ?_
    refine v_getR 15 C lk_X10_10 (hB 0 _ rfl) (by decide) rfl dX10_on_15 ?_
    refine v_aload_n 18 C dX10_on_18 rfl rfl ?_
    refine v_getR 19 C lk_X10_19 (hB 0 _ rfl) (by decide) rfl dX10_on_19 ?_
    refine v_callV (st := []) 22 C [.ref (E.2.1 (k + 33))] lm_X10_94 ly_X3_copyFrom ((hB.sub (sh' := sh_Game) 1 rfl) 0 _ rfl) (by decide) dX10_on_22 rfl (by decide) rfl (Nat.le_of_ble_eq_true rfl) (fun o1 h1 => m_X3_copyFrom (k + 1) (k + 33) (hB.sub (sh' := sh_Game) 1 rfl) (hB.sub (sh' := sh_Game) 33 rfl)  σ o1 h1) hf (fun v1 s2 hf => ?_)
    refine v_aload_n 25 C dX10_on_25 rfl rfl ?_
    refine v_getR 26 C lk_X10_46 (hB 0 _ rfl) (by decide) rfl dX10_on_26 ?_
    refine v_iconst (v := 0) 29 C dX10_on_29 (by decide) ?_
    refine v_putZ 30 C lp_X10_102 ((hB.sub (sh' := sh_Search) 59 rfl) 0 _ rfl) (by decide) rfl dX10_on_30 hf (fun s3 hf => ?_)
    refine v_aload_n 33 C dX10_on_33 rfl rfl ?_
    refine v_getR 34 C lk_X10_10 (hB 0 _ rfl) (by decide) rfl dX10_on_34 ?_
    refine v_getR 37 C lk_X10_141 ((hB.sub (sh' := sh_Game) 1 rfl) 0 _ rfl) (by decide) rfl dX10_on_37 ?_
    refine v_callV (st := []) 40 C [] lm_X10_284 ly_X0_howManyFilled (((hB.sub (sh' := sh_Game) 1 rfl).sub (sh' := sh_Board) 6 rfl) 0 _ rfl) (by decide) dX10_on_40 rfl (by decide) rfl (Nat.le_of_ble_eq_true rfl) (fun o1 h1 => m_X0_howManyFilled (k + 1 + 6) ((hB.sub (sh' := sh_Game) 1 rfl).sub (sh' := sh_Board) 6 rfl)  s3 o1 h1) hf (fun v4 s5 hf => ?_)
    exact v_iret 43 C rfl dX10_on_43 hf
  · refine v_aload_n 7 C dX10_on_7 rfl rfl ?_
    refine v_bipush (v := (-3)) 8 C dX10_on_8 (by decide) ?_
    refine v_callV (st := []) 10 C [.int (-3)] lm_X10_83 ly_X10_refuse (hB 0 _ rfl) (by decide) dX10_on_10 rfl (by decide) rfl (Nat.le_of_ble_eq_true rfl) (fun o1 h1 => m_X10_refuse k hB (-3) σ o1 h1) hf (fun v6 s7 hf => ?_)
    exact v_iret 13 C rfl dX10_on_13 hf
theorem m_X10_on {l : Launch} {E : En} {L : List Nat} (k : Nat) (hB : Bk L sh_AuntsPuzzle k) (σ : Sg) (o : Int32 × Sg) (hf : f_X10_on k σ = some o) : Mi l yX10_on cX10_on 1 (some .int) (3) E L [.ref (E.2.1 (k))] σ o :=
  Mi.of RX10 rfl (by decide) (Nat.le_of_ble_eq_true rfl) (fun q hq C => by subst hq; exact k_X10_on_b0 C k hB  σ hf)
def f_X10_count_b22 (k : Nat) (x1 : Int32) (σ : Sg) : Rs := if x1 = 0 then (some (σ (k + 1 + 1) 0, σ)) else (if x1 = 1 then (some (σ (k + 1 + 1) 1, σ)) else (if x1 = 2 then (some (σ (k + 1 + 12) 0, σ)) else (if x1 = 3 then (p_call (f_X0_howManyFilled (k + 1 + 6) σ) (fun v1 s2 => some (v1, s2))) else (if x1 = 4 then (p_call (f_X0_howManyLost (k + 1 + 6) σ) (fun v3 s4 => some (v3, s4))) else (if x1 = 5 then (p_call (f_X1_innerEdges (k + 1 + 1) σ) (fun v5 s6 => some (v5, s6))) else (if x1 = 6 then (some (σ (k) 12, σ)) else (if x1 = 7 then (some (σ (k + 57) 1, σ)) else (if x1 = 8 then (some (σ (k + 55) 1, σ)) else (some ((-9), σ))))))))))
set_option maxRecDepth 100000 in
set_option maxHeartbeats 4000000 in
theorem k_X10_count_b22 {q : Mc} {E : En} {L : List Nat} {o : Int32 × Sg} (C : Cx q E L cX10_count 2 RX10 (some .int) (3)) (k : Nat) (hB : Bk L sh_AuntsPuzzle k) (x1 : Int32) (σ : Sg) (hf : f_X10_count_b22 k x1 σ = some o) : Vx q E L 2 (some .int) o 22 [(0, .ref (E.2.1 (k))), (1, .int x1)] [] σ := by
  unfold f_X10_count_b22 at hf
  refine v_iload_n 22 C dX10_count_22 rfl rfl ?_
  refine v_case (v := 0) hf (fun hx hf => ?_) (fun hn0 hf => ?_)
  · refine v_tabIn (tgt := 72) 23 C hx dX10_count_23 (by decide) rfl (by decide) ?_
    refine v_aload_n 72 C dX10_count_72 rfl rfl ?_
    refine v_getR 73 C lk_X10_10 (hB 0 _ rfl) (by decide) rfl dX10_count_73 ?_
    refine v_getR 76 C lk_X10_113 ((hB.sub (sh' := sh_Game) 1 rfl) 0 _ rfl) (by decide) rfl dX10_count_76 ?_
    refine v_getI (dum := 0) 79 C lk_X10_287 (((hB.sub (sh' := sh_Game) 1 rfl).sub (sh' := sh_Cut) 1 rfl) 0 _ rfl) (by decide) rfl dX10_count_79 ?_
    exact v_iret 82 C rfl dX10_count_82 hf
  refine v_case (v := 1) hf (fun hx hf => ?_) (fun hn1 hf => ?_)
  · refine v_tabIn (tgt := 83) 23 C hx dX10_count_23 (by decide) rfl (by decide) ?_
    refine v_aload_n 83 C dX10_count_83 rfl rfl ?_
    refine v_getR 84 C lk_X10_10 (hB 0 _ rfl) (by decide) rfl dX10_count_84 ?_
    refine v_getR 87 C lk_X10_113 ((hB.sub (sh' := sh_Game) 1 rfl) 0 _ rfl) (by decide) rfl dX10_count_87 ?_
    refine v_getI (dum := 0) 90 C lk_X10_290 (((hB.sub (sh' := sh_Game) 1 rfl).sub (sh' := sh_Cut) 1 rfl) 0 _ rfl) (by decide) rfl dX10_count_90 ?_
    exact v_iret 93 C rfl dX10_count_93 hf
  refine v_case (v := 2) hf (fun hx hf => ?_) (fun hn2 hf => ?_)
  · refine v_tabIn (tgt := 94) 23 C hx dX10_count_23 (by decide) rfl (by decide) ?_
    refine v_aload_n 94 C dX10_count_94 rfl rfl ?_
    refine v_getR 95 C lk_X10_10 (hB 0 _ rfl) (by decide) rfl dX10_count_95 ?_
    refine v_getR 98 C lk_X10_129 ((hB.sub (sh' := sh_Game) 1 rfl) 0 _ rfl) (by decide) rfl dX10_count_98 ?_
    refine v_getI (dum := 0) 101 C lk_X10_229 (((hB.sub (sh' := sh_Game) 1 rfl).sub (sh' := sh_People) 12 rfl) 0 _ rfl) (by decide) rfl dX10_count_101 ?_
    exact v_iret 104 C rfl dX10_count_104 hf
  refine v_case (v := 3) hf (fun hx hf => ?_) (fun hn3 hf => ?_)
  · refine v_tabIn (tgt := 105) 23 C hx dX10_count_23 (by decide) rfl (by decide) ?_
    refine v_aload_n 105 C dX10_count_105 rfl rfl ?_
    refine v_getR 106 C lk_X10_10 (hB 0 _ rfl) (by decide) rfl dX10_count_106 ?_
    refine v_getR 109 C lk_X10_141 ((hB.sub (sh' := sh_Game) 1 rfl) 0 _ rfl) (by decide) rfl dX10_count_109 ?_
    refine v_callV (st := []) 112 C [] lm_X10_284 ly_X0_howManyFilled (((hB.sub (sh' := sh_Game) 1 rfl).sub (sh' := sh_Board) 6 rfl) 0 _ rfl) (by decide) dX10_count_112 rfl (by decide) rfl (Nat.le_of_ble_eq_true rfl) (fun o1 h1 => m_X0_howManyFilled (k + 1 + 6) ((hB.sub (sh' := sh_Game) 1 rfl).sub (sh' := sh_Board) 6 rfl)  σ o1 h1) hf (fun v1 s2 hf => ?_)
    exact v_iret 115 C rfl dX10_count_115 hf
  refine v_case (v := 4) hf (fun hx hf => ?_) (fun hn4 hf => ?_)
  · refine v_tabIn (tgt := 116) 23 C hx dX10_count_23 (by decide) rfl (by decide) ?_
    refine v_aload_n 116 C dX10_count_116 rfl rfl ?_
    refine v_getR 117 C lk_X10_10 (hB 0 _ rfl) (by decide) rfl dX10_count_117 ?_
    refine v_getR 120 C lk_X10_141 ((hB.sub (sh' := sh_Game) 1 rfl) 0 _ rfl) (by decide) rfl dX10_count_120 ?_
    refine v_callV (st := []) 123 C [] lm_X10_198 ly_X0_howManyLost (((hB.sub (sh' := sh_Game) 1 rfl).sub (sh' := sh_Board) 6 rfl) 0 _ rfl) (by decide) dX10_count_123 rfl (by decide) rfl (Nat.le_of_ble_eq_true rfl) (fun o1 h1 => m_X0_howManyLost (k + 1 + 6) ((hB.sub (sh' := sh_Game) 1 rfl).sub (sh' := sh_Board) 6 rfl)  σ o1 h1) hf (fun v3 s4 hf => ?_)
    exact v_iret 126 C rfl dX10_count_126 hf
  refine v_case (v := 5) hf (fun hx hf => ?_) (fun hn5 hf => ?_)
  · refine v_tabIn (tgt := 127) 23 C hx dX10_count_23 (by decide) rfl (by decide) ?_
    refine v_aload_n 127 C dX10_count_127 rfl rfl ?_
    refine v_getR 128 C lk_X10_10 (hB 0 _ rfl) (by decide) rfl dX10_count_128 ?_
    refine v_getR 131 C lk_X10_113 ((hB.sub (sh' := sh_Game) 1 rfl) 0 _ rfl) (by decide) rfl dX10_count_131 ?_
    refine v_callV (st := []) 134 C [] lm_X10_293 ly_X1_innerEdges (((hB.sub (sh' := sh_Game) 1 rfl).sub (sh' := sh_Cut) 1 rfl) 0 _ rfl) (by decide) dX10_count_134 rfl (by decide) rfl (Nat.le_of_ble_eq_true rfl) (fun o1 h1 => m_X1_innerEdges (k + 1 + 1) ((hB.sub (sh' := sh_Game) 1 rfl).sub (sh' := sh_Cut) 1 rfl)  σ o1 h1) hf (fun v5 s6 hf => ?_)
    exact v_iret 137 C rfl dX10_count_137 hf
  refine v_case (v := 6) hf (fun hx hf => ?_) (fun hn6 hf => ?_)
  · refine v_tabIn (tgt := 138) 23 C hx dX10_count_23 (by decide) rfl (by decide) ?_
    refine v_aload_n 138 C dX10_count_138 rfl rfl ?_
    refine v_getI (dum := 0) 139 C lk_X10_79 (hB 0 _ rfl) (by decide) rfl dX10_count_139 ?_
    exact v_iret 142 C rfl dX10_count_142 hf
  refine v_case (v := 7) hf (fun hx hf => ?_) (fun hn7 hf => ?_)
  · refine v_tabIn (tgt := 143) 23 C hx dX10_count_23 (by decide) rfl (by decide) ?_
    refine v_aload_n 143 C dX10_count_143 rfl rfl ?_
    refine v_getR 144 C lk_X10_39 (hB 0 _ rfl) (by decide) rfl dX10_count_144 ?_
    refine v_getI (dum := 0) 147 C lk_X10_277 ((hB.sub (sh' := sh_Told) 57 rfl) 0 _ rfl) (by decide) rfl dX10_count_147 ?_
    exact v_iret 150 C rfl dX10_count_150 hf
  refine v_case (v := 8) hf (fun hx hf => ?_) (fun hn8 hf => ?_)
  · refine v_tabIn (tgt := 151) 23 C hx dX10_count_23 (by decide) rfl (by decide) ?_
    refine v_aload_n 151 C dX10_count_151 rfl rfl ?_
    refine v_getR 152 C lk_X10_32 (hB 0 _ rfl) (by decide) rfl dX10_count_152 ?_
    refine v_getI (dum := 0) 155 C lk_X10_87 ((hB.sub (sh' := sh_Tape) 55 rfl) 0 _ rfl) (by decide) rfl dX10_count_155 ?_
    exact v_iret 158 C rfl dX10_count_158 hf
  refine v_tabOut (tgt := 159) 23 C dX10_count_23 (by have g0 := lv_neT hn0 (show (0 : Int32).toInt = 0 from rfl); have g1 := lv_neT hn1 (show (1 : Int32).toInt = 1 from rfl); have g2 := lv_neT hn2 (show (2 : Int32).toInt = 2 from rfl); have g3 := lv_neT hn3 (show (3 : Int32).toInt = 3 from rfl); have g4 := lv_neT hn4 (show (4 : Int32).toInt = 4 from rfl); have g5 := lv_neT hn5 (show (5 : Int32).toInt = 5 from rfl); have g6 := lv_neT hn6 (show (6 : Int32).toInt = 6 from rfl); have g7 := lv_neT hn7 (show (7 : Int32).toInt = 7 from rfl); have g8 := lv_neT hn8 (show (8 : Int32).toInt = 8 from rfl); omega) (by decide) ?_
  refine v_bipush (v := (-9)) 159 C dX10_count_159 (by decide) ?_
  exact v_iret 161 C rfl dX10_count_161 hf
def f_X10_count (k : Nat) (x1 : Int32) (σ : Sg) : Rs := if x1 < 11 then (f_X10_count_b22 k x1 σ) else (if 16 < x1 then (f_X10_count_b22 k x1 σ) else (p_rd σ (k + 102) 7 (x1 - 10) (fun v1 => some (v1, σ))))
set_option maxRecDepth 100000 in
set_option maxHeartbeats 4000000 in
theorem k_X10_count_b0 {q : Mc} {E : En} {L : List Nat} {o : Int32 × Sg} (C : Cx q E L cX10_count 2 RX10 (some .int) (3)) (k : Nat) (hB : Bk L sh_AuntsPuzzle k) (x1 : Int32) (σ : Sg) (hf : f_X10_count k x1 σ = some o) : Vx q E L 2 (some .int) o 0 [(0, .ref (E.2.1 (k))), (1, .int x1)] [] σ := by
  unfold f_X10_count at hf
  refine v_iload_n 0 C dX10_count_0 rfl rfl ?_
  refine v_bipush (v := 11) 1 C dX10_count_1 (by decide) ?_
  refine v_icmp_lt (tgt := 22) 3 C dX10_count_3 (by decide) hf (fun hf => ?_) (fun hf => ?_)
  · exact Vx.lv [0, 1] rfl (k_X10_count_b22 C k hB x1 σ hf)
  · refine v_iload_n 6 C dX10_count_6 rfl rfl ?_
    refine v_bipush (v := 16) 7 C dX10_count_7 (by decide) ?_
    refine v_icmp_gt (tgt := 22) 9 C dX10_count_9 (by decide) hf (fun hf => ?_) (fun hf => ?_)
    · exact Vx.lv [0, 1] rfl (k_X10_count_b22 C k hB x1 σ hf)
    · refine v_aload_n 12 C dX10_count_12 rfl rfl ?_
      refine v_getR 13 C lk_X10_71 (hB 0 _ rfl) (by decide) rfl dX10_count_13 ?_
      refine v_iload_n 16 C dX10_count_16 rfl rfl ?_
      refine v_bipush (v := 10) 17 C dX10_count_17 (by decide) ?_
      refine v_isub 19 C dX10_count_19 ?_
      refine v_iald 20 C (hB 102 _ rfl) dX10_count_20 hf (fun v1 hf => ?_)
      exact v_iret 21 C rfl dX10_count_21 hf
theorem m_X10_count {l : Launch} {E : En} {L : List Nat} (k : Nat) (hB : Bk L sh_AuntsPuzzle k) (x1 : Int32) (σ : Sg) (o : Int32 × Sg) (hf : f_X10_count k x1 σ = some o) : Mi l yX10_count cX10_count 2 (some .int) (3) E L [.ref (E.2.1 (k)), .int x1] σ o :=
  Mi.of RX10 rfl (by decide) (Nat.le_of_ble_eq_true rfl) (fun q hq C => by subst hq; exact k_X10_count_b0 C k hB x1 σ hf)
