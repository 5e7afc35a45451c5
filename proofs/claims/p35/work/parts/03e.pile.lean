/-! printed by wip/whole/gen/gen.py: methods as pure functions, and that the machine does them -/
def f_X8_add (k : Nat) (x1 : Int32) (σ : Sg) : Rs := p_wr σ (k + 1) 16 (σ (k) 1) x1 (fun s1 => p_put s1 (k) 1 ((s1 (k) 1) + 1) (fun s2 => some (s2 (k) 1, s2)))
set_option maxRecDepth 100000 in
set_option maxHeartbeats 4000000 in
theorem k_X8_add_b0 {q : Mc} {E : En} {L : List Nat} {o : Int32 × Sg} (C : Cx q E L cX8_add 2 RX8 (some .int) (1)) (k : Nat) (hB : Bk L sh_Told k) (x1 : Int32) (σ : Sg) (hf : f_X8_add k x1 σ = some o) : Vx q E L 2 (some .int) o 0 [(0, .ref (E.2.1 (k))), (1, .int x1)] [] σ := by
  unfold f_X8_add at hf
  refine v_aload_n 0 C dX8_add_0 rfl rfl ?_
  refine v_getR 1 C lk_X8_9 (hB 0 _ rfl) (by decide) rfl dX8_add_1 ?_
  refine v_aload_n 4 C dX8_add_4 rfl rfl ?_
  refine v_getI (dum := 0) 5 C lk_X8_15 (hB 0 _ rfl) (by decide) rfl dX8_add_5 ?_
  refine v_iload_n 8 C dX8_add_8 rfl rfl ?_
  refine v_iast 9 C (hB 1 _ rfl) dX8_add_9 hf (fun s1 hf => ?_)
  refine v_aload_n 10 C dX8_add_10 rfl rfl ?_
  refine v_dup 11 C dX8_add_11 rfl ?_
  refine v_getI (dum := 0) 12 C lk_X8_15 (hB 0 _ rfl) (by decide) rfl dX8_add_12 ?_
  refine v_iconst (v := 1) 15 C dX8_add_15 (by decide) ?_
  refine v_iadd 16 C dX8_add_16 ?_
  refine v_putI 17 C lp_X8_15 (hB 0 _ rfl) (by decide) rfl dX8_add_17 hf (fun s2 hf => ?_)
  refine v_aload_n 20 C dX8_add_20 rfl rfl ?_
  refine v_getI (dum := 0) 21 C lk_X8_15 (hB 0 _ rfl) (by decide) rfl dX8_add_21 ?_
  exact v_iret 24 C rfl dX8_add_24 hf
theorem m_X8_add {l : Launch} {E : En} {L : List Nat} (k : Nat) (hB : Bk L sh_Told k) (x1 : Int32) (σ : Sg) (o : Int32 × Sg) (hf : f_X8_add k x1 σ = some o) : Mi l yX8_add cX8_add 2 (some .int) (1) E L [.ref (E.2.1 (k)), .int x1] σ o :=
  Mi.of RX8 rfl (by decide) (Nat.le_of_ble_eq_true rfl) (fun q hq C => by subst hq; exact k_X8_add_b0 C k hB x1 σ hf)
def f_X8_compareWith_b53 (k k1 : Nat) (r20 : Int32 → Int32 → Int32 → Sg → Rs) (x2 : Int32) (x3 : Int32) (x4 : Int32) (t0 : Int32) (σ : Sg) : Rs := p_rd σ (k + 1) 16 x4 (fun v1 => if v1 = t0 then (r20 x2 x3 (x4 + 1) σ) else (some (x4, σ)))
set_option maxRecDepth 100000 in
set_option maxHeartbeats 4000000 in
theorem k_X8_compareWith_b53 {q : Mc} {E : En} {L : List Nat} {o : Int32 × Sg} (C : Cx q E L cX8_compareWith 6 RX8 (some .int) (2)) (k k1 : Nat) (hB : Bk L sh_Told k) (hB1 : Bk L sh_Game k1) (r20 : Int32 → Int32 → Int32 → Sg → Rs) (hr20 : ∀ (x2 : Int32) (x3 : Int32) (x4 : Int32) (σ : Sg), r20 x2 x3 x4 σ = some o → Vx q E L 6 (some .int) o 20 [(0, .ref (E.2.1 (k))), (1, .ref (E.2.1 (k1))), (2, .int x2), (3, .int x3), (4, .int x4)] [] σ) (x2 : Int32) (x3 : Int32) (x4 : Int32) (t0 : Int32) (σ : Sg) (hf : f_X8_compareWith_b53 k k1 r20 x2 x3 x4 t0 σ = some o) : Vx q E L 6 (some .int) o 53 [(0, .ref (E.2.1 (k))), (1, .ref (E.2.1 (k1))), (2, .int x2), (3, .int x3), (4, .int x4)] [.int t0] σ := by
  unfold f_X8_compareWith_b53 at hf
  refine v_istore (lv' := [(0, .ref (E.2.1 (k))), (1, .ref (E.2.1 (k1))), (2, .int x2), (3, .int x3), (4, .int x4), (5, .int t0)]) 53 C dX8_compareWith_53 (by decide) rfl rfl ?_
  refine v_aload_n 55 C dX8_compareWith_55 rfl rfl ?_
  refine v_getR 56 C lk_X8_9 (hB 0 _ rfl) (by decide) rfl dX8_compareWith_56 ?_
  refine v_iload 59 C dX8_compareWith_59 rfl ?_
  refine v_iald 61 C (hB 1 _ rfl) dX8_compareWith_61 hf (fun v1 hf => ?_)
  refine v_iload 62 C dX8_compareWith_62 rfl ?_
  refine v_icmp_eq (tgt := 70) 64 C dX8_compareWith_64 (by decide) hf (fun hf => ?_) (fun hf => ?_)
  · refine v_iinc (v := x4 + 1) (lv' := [(0, .ref (E.2.1 (k))), (1, .ref (E.2.1 (k1))), (2, .int x2), (3, .int x3), (4, .int (x4 + 1)), (5, .int t0)]) 70 C dX8_compareWith_70 rfl (by rfl) (by decide) rfl rfl ?_
    refine v_goto (tgt := 20) 73 C dX8_compareWith_73 (by decide) ?_
    exact Vx.lv [0, 1, 2, 3, 4] rfl (hr20 x2 x3 (x4 + 1) σ hf)
  · refine v_iload 67 C dX8_compareWith_67 rfl ?_
    exact v_iret 69 C rfl dX8_compareWith_69 hf
def f_X8_compareWith_b20 (k k1 : Nat)  : Nat → Int32 → Int32 → Int32 → Sg → Rs
  | 0, _, _, _, _ => none
  | n + 1, x2, x3, x4, σ => if x3 ≤ x4 then (if (σ (k) 1) = x2 then (some ((-9), σ)) else (some (x3, σ))) else (p_call (f_X0_isFilled (k1 + 6) x4 σ) (fun v1 s2 => if v1 = 0 then (f_X8_compareWith_b53 k k1 (f_X8_compareWith_b20 k k1 n) x2 x3 x4 99 s2) else (p_rd s2 (k1 + 6 + 1) 16 x4 (fun v3 => f_X8_compareWith_b53 k k1 (f_X8_compareWith_b20 k k1 n) x2 x3 x4 v3 s2))))
set_option maxRecDepth 100000 in
set_option maxHeartbeats 4000000 in
theorem k_X8_compareWith_b20 {q : Mc} {E : En} {L : List Nat} {o : Int32 × Sg} (C : Cx q E L cX8_compareWith 6 RX8 (some .int) (2)) (k k1 : Nat) (hB : Bk L sh_Told k) (hB1 : Bk L sh_Game k1) (n : Nat) : ∀ (x2 : Int32) (x3 : Int32) (x4 : Int32) (σ : Sg), f_X8_compareWith_b20 k k1 n x2 x3 x4 σ = some o → Vx q E L 6 (some .int) o 20 [(0, .ref (E.2.1 (k))), (1, .ref (E.2.1 (k1))), (2, .int x2), (3, .int x3), (4, .int x4)] [] σ := by
  induction n with
  | zero => intro x2 x3 x4 σ hf; cases (show (none : Rs) = some o from hf)
  | succ n ih =>
    intro x2 x3 x4 σ hf
    rw [f_X8_compareWith_b20] at hf
    refine v_iload 20 C dX8_compareWith_20 rfl ?_
    refine v_iload_n 22 C dX8_compareWith_22 rfl rfl ?_
    refine v_icmp_ge (tgt := 76) 23 C dX8_compareWith_23 (by decide) hf (fun hf => ?_) (fun hf => ?_)
    · refine v_aload_n 76 C dX8_compareWith_76 rfl rfl ?_
      refine v_getI (dum := 0) 77 C lk_X8_15 (hB 0 _ rfl) (by decide) rfl dX8_compareWith_77 ?_
      refine v_iload_n 80 C dX8_compareWith_80 rfl rfl ?_
      refine v_icmp_ne (tgt := 89) 81 C dX8_compareWith_81 (by decide) hf (fun hf => ?_) (fun hf => ?_)
      · refine v_iload_n 89 C dX8_compareWith_89 rfl rfl ?_
        exact v_iret 90 C rfl dX8_compareWith_90 hf
      · refine v_bipush (v := (-9)) 84 C dX8_compareWith_84 (by decide) ?_
        refine v_goto (tgt := 90) 86 C dX8_compareWith_86 (by decide) ?_
        exact v_iret 90 C rfl dX8_compareWith_90 hf
    · refine v_aload_n 26 C dX8_compareWith_26 rfl rfl ?_
      refine v_getR 27 C lk_X8_36 (hB1 0 _ rfl) (by decide) rfl dX8_compareWith_27 ?_
      refine v_iload 30 C dX8_compareWith_30 rfl ?_
      refine v_callV (st := []) 32 C [.int x4] lm_X8_40 ly_X0_isFilled ((hB1.sub (sh' := sh_Board) 6 rfl) 0 _ rfl) (by decide) dX8_compareWith_32 rfl (by decide) rfl (Nat.le_of_ble_eq_true rfl) (fun o1 h1 => m_X0_isFilled (k1 + 6) (hB1.sub (sh' := sh_Board) 6 rfl) x4 σ o1 h1) hf (fun v1 s2 hf => ?_)
      refine v_if_eq (tgt := 51) 35 C dX8_compareWith_35 (by decide) hf (fun hf => ?_) (fun hf => ?_)
      · refine v_bipush (v := 99) 51 C dX8_compareWith_51 (by decide) ?_
        exact Vx.lv [0, 1, 2, 3, 4] rfl (k_X8_compareWith_b53 C k k1 hB hB1 (f_X8_compareWith_b20 k k1 n) ih x2 x3 x4 99 s2 hf)
      · refine v_aload_n 38 C dX8_compareWith_38 rfl rfl ?_
        refine v_getR 39 C lk_X8_36 (hB1 0 _ rfl) (by decide) rfl dX8_compareWith_39 ?_
        refine v_getR 42 C lk_X8_46 ((hB1.sub (sh' := sh_Board) 6 rfl) 0 _ rfl) (by decide) rfl dX8_compareWith_42 ?_
        refine v_iload 45 C dX8_compareWith_45 rfl ?_
        refine v_iald 47 C ((hB1.sub (sh' := sh_Board) 6 rfl) 1 _ rfl) dX8_compareWith_47 hf (fun v3 hf => ?_)
        refine v_goto (tgt := 53) 48 C dX8_compareWith_48 (by decide) ?_
        exact Vx.lv [0, 1, 2, 3, 4] rfl (k_X8_compareWith_b53 C k k1 hB hB1 (f_X8_compareWith_b20 k k1 n) ih x2 x3 x4 v3 s2 hf)
def f_X8_compareWith (k k1 : Nat) (σ : Sg) : Rs := f_X8_compareWith_b20 k k1 fu (σ (k1 + 1) 2) (jmin (σ (k) 1) (σ (k1 + 1) 2)) 0 σ
set_option maxRecDepth 100000 in
set_option maxHeartbeats 4000000 in
theorem k_X8_compareWith_b0 {q : Mc} {E : En} {L : List Nat} {o : Int32 × Sg} (C : Cx q E L cX8_compareWith 6 RX8 (some .int) (2)) (k k1 : Nat) (hB : Bk L sh_Told k) (hB1 : Bk L sh_Game k1) (σ : Sg) (hf : f_X8_compareWith k k1 σ = some o) : Vx q E L 6 (some .int) o 0 [(0, .ref (E.2.1 (k))), (1, .ref (E.2.1 (k1)))] [] σ := by
  unfold f_X8_compareWith at hf
  refine v_aload_n 0 C dX8_compareWith_0 rfl rfl ?_
  refine v_getR 1 C lk_X8_19 (hB1 0 _ rfl) (by decide) rfl dX8_compareWith_1 ?_
  refine v_getI (dum := 0) 4 C lk_X8_25 ((hB1.sub (sh' := sh_Cut) 1 rfl) 0 _ rfl) (by decide) rfl dX8_compareWith_4 ?_
  refine v_istore_n (lv' := [(0, .ref (E.2.1 (k))), (1, .ref (E.2.1 (k1))), (2, .int (σ (k1 + 1) 2))]) 7 C dX8_compareWith_7 rfl (by decide) rfl rfl ?_
  refine v_aload_n 8 C dX8_compareWith_8 rfl rfl ?_
  refine v_getI (dum := 0) 9 C lk_X8_15 (hB 0 _ rfl) (by decide) rfl dX8_compareWith_9 ?_
  refine v_iload_n 12 C dX8_compareWith_12 rfl rfl ?_
  refine v_mmin 13 C lmm_X8_30 lma_min (by decide) (Nat.le_of_ble_eq_true rfl) dX8_compareWith_13 ?_
  refine v_istore_n (lv' := [(0, .ref (E.2.1 (k))), (1, .ref (E.2.1 (k1))), (2, .int (σ (k1 + 1) 2)), (3, .int (jmin (σ (k) 1) (σ (k1 + 1) 2)))]) 16 C dX8_compareWith_16 rfl (by decide) rfl rfl ?_
  refine v_iconst (v := 0) 17 C dX8_compareWith_17 (by decide) ?_
  refine v_istore (lv' := [(0, .ref (E.2.1 (k))), (1, .ref (E.2.1 (k1))), (2, .int (σ (k1 + 1) 2)), (3, .int (jmin (σ (k) 1) (σ (k1 + 1) 2))), (4, .int 0)]) 18 C dX8_compareWith_18 (by decide) rfl rfl ?_
  exact Vx.lv [0, 1, 2, 3, 4] rfl (k_X8_compareWith_b20 C k k1 hB hB1 fu (σ (k1 + 1) 2) (jmin (σ (k) 1) (σ (k1 + 1) 2)) 0 σ hf)
theorem m_X8_compareWith {l : Launch} {E : En} {L : List Nat} (k k1 : Nat) (hB : Bk L sh_Told k) (hB1 : Bk L sh_Game k1) (σ : Sg) (o : Int32 × Sg) (hf : f_X8_compareWith k k1 σ = some o) : Mi l yX8_compareWith cX8_compareWith 6 (some .int) (2) E L [.ref (E.2.1 (k)), .ref (E.2.1 (k1))] σ o :=
  Mi.of RX8 rfl (by decide) (Nat.le_of_ble_eq_true rfl) (fun q hq C => by subst hq; exact k_X8_compareWith_b0 C k k1 hB hB1  σ hf)
def f_X2_draw (k : Nat) (x1 : Int32) (σ : Sg) : Rs := p_put σ (k) 1 (((σ (k) 1) * 1664525) + 1013904223) (fun s1 => if 1 ≤ x1 then (p_nz x1 (some ((((s1 (k) 1) &&& 2147483647) / 256) - (((s1 (k) 1) &&& 2147483647) / 256) / x1 * x1, s1))) else (some (0, s1)))
set_option maxRecDepth 100000 in
set_option maxHeartbeats 4000000 in
theorem k_X2_draw_b0 {q : Mc} {E : En} {L : List Nat} {o : Int32 × Sg} (C : Cx q E L cX2_draw 2 RX2 (some .int) (1)) (k : Nat) (hB : Bk L sh_Evening k) (x1 : Int32) (σ : Sg) (hf : f_X2_draw k x1 σ = some o) : Vx q E L 2 (some .int) o 0 [(0, .ref (E.2.1 (k))), (1, .int x1)] [] σ := by
  unfold f_X2_draw at hf
  refine v_aload_n 0 C dX2_draw_0 rfl rfl ?_
  refine v_aload_n 1 C dX2_draw_1 rfl rfl ?_
  refine v_getI (dum := 0) 2 C lk_X2_18 (hB 0 _ rfl) (by decide) rfl dX2_draw_2 ?_
  refine v_ldc 5 C co_X2_68 dX2_draw_5 ?_
  refine v_imul 7 C dX2_draw_7 ?_
  refine v_ldc 8 C co_X2_69 dX2_draw_8 ?_
  refine v_iadd 10 C dX2_draw_10 ?_
  refine v_putI 11 C lp_X2_18 (hB 0 _ rfl) (by decide) rfl dX2_draw_11 hf (fun s1 hf => ?_)
  refine v_iload_n 14 C dX2_draw_14 rfl rfl ?_
  refine v_iconst (v := 1) 15 C dX2_draw_15 (by decide) ?_
  refine v_icmp_ge (tgt := 23) 16 C dX2_draw_16 (by decide) hf (fun hf => ?_) (fun hf => ?_)
  · refine v_aload_n 23 C dX2_draw_23 rfl rfl ?_
    refine v_getI (dum := 0) 24 C lk_X2_18 (hB 0 _ rfl) (by decide) rfl dX2_draw_24 ?_
    refine v_ldc 27 C co_X2_70 dX2_draw_27 ?_
    refine v_iand 29 C dX2_draw_29 ?_
    refine v_sipush (v := 256) 30 C dX2_draw_30 (by decide) ?_
    refine v_idiv_c 33 C dX2_draw_33 (by decide) ?_
    refine v_iload_n 34 C dX2_draw_34 rfl rfl ?_
    refine v_irem 35 C dX2_draw_35 hf (fun hf => ?_)
    exact v_iret 36 C rfl dX2_draw_36 hf
  · refine v_iconst (v := 0) 19 C dX2_draw_19 (by decide) ?_
    refine v_goto (tgt := 36) 20 C dX2_draw_20 (by decide) ?_
    exact v_iret 36 C rfl dX2_draw_36 hf
theorem m_X2_draw {l : Launch} {E : En} {L : List Nat} (k : Nat) (hB : Bk L sh_Evening k) (x1 : Int32) (σ : Sg) (o : Int32 × Sg) (hf : f_X2_draw k x1 σ = some o) : Mi l yX2_draw cX2_draw 2 (some .int) (1) E L [.ref (E.2.1 (k)), .int x1] σ o :=
  Mi.of RX2 rfl (by decide) (Nat.le_of_ble_eq_true rfl) (fun q hq C => by subst hq; exact k_X2_draw_b0 C k hB x1 σ hf)
def f_X2_spend_b148 (k k1 : Nat) (r22 : Int32 → Int32 → Int32 → Sg → Rs) (x2 : Int32) (x4 : Int32) (x5 : Int32) (σ : Sg) : Rs := r22 x2 x4 (x5 + 1) σ
set_option maxRecDepth 100000 in
set_option maxHeartbeats 4000000 in
theorem k_X2_spend_b148 {q : Mc} {E : En} {L : List Nat} {o : Int32 × Sg} (C : Cx q E L cX2_spend 11 RX2 (some .int) (4)) (k k1 : Nat) (hB : Bk L sh_Evening k) (hB1 : Bk L sh_Game k1) (r22 : Int32 → Int32 → Int32 → Sg → Rs) (hr22 : ∀ (x2 : Int32) (x4 : Int32) (x5 : Int32) (σ : Sg), r22 x2 x4 x5 σ = some o → Vx q E L 11 (some .int) o 22 [(0, .ref (E.2.1 (k))), (1, .ref (E.2.1 (k1))), (2, .int x2), (4, .int x4), (5, .int x5)] [] σ) (x2 : Int32) (x4 : Int32) (x5 : Int32) (σ : Sg) (hf : f_X2_spend_b148 k k1 r22 x2 x4 x5 σ = some o) : Vx q E L 11 (some .int) o 148 [(0, .ref (E.2.1 (k))), (1, .ref (E.2.1 (k1))), (2, .int x2), (4, .int x4), (5, .int x5)] [] σ := by
  unfold f_X2_spend_b148 at hf
  refine v_iinc (v := x5 + 1) (lv' := [(0, .ref (E.2.1 (k))), (1, .ref (E.2.1 (k1))), (2, .int x2), (4, .int x4), (5, .int (x5 + 1))]) 148 C dX2_spend_148 rfl (by rfl) (by decide) rfl rfl ?_
  refine v_goto (tgt := 22) 151 C dX2_spend_151 (by decide) ?_
  exact Vx.lv [0, 1, 2, 3, 4] rfl (hr22 x2 x4 (x5 + 1) σ hf)
def f_X2_spend_b103 (k k1 : Nat) (r22 : Int32 → Int32 → Int32 → Sg → Rs) (x2 : Int32) (x4 : Int32) (x5 : Int32) (x6 : Int32) (x7 : Int32) (x8 : Int32) (x9 : Int32) (t0 : Int32) (σ : Sg) : Rs := if t0 = 0 then (f_X2_spend_b148 k k1 r22 x2 x4 x5 σ) else (p_call (f_X1_isFit (k1 + 1) (k + 1) x7 x8 x9 σ) (fun v1 s2 => if v1 = 0 then (f_X2_spend_b148 k k1 r22 x2 x4 x5 s2) else (p_call (f_X0_put (k + 1) x9 x7 x8 x6 s2) (fun v3 s4 => f_X2_spend_b148 k k1 r22 x2 (x4 + 1) x5 s4))))
set_option maxRecDepth 100000 in
set_option maxHeartbeats 4000000 in
theorem k_X2_spend_b103 {q : Mc} {E : En} {L : List Nat} {o : Int32 × Sg} (C : Cx q E L cX2_spend 11 RX2 (some .int) (4)) (k k1 : Nat) (hB : Bk L sh_Evening k) (hB1 : Bk L sh_Game k1) (r22 : Int32 → Int32 → Int32 → Sg → Rs) (hr22 : ∀ (x2 : Int32) (x4 : Int32) (x5 : Int32) (σ : Sg), r22 x2 x4 x5 σ = some o → Vx q E L 11 (some .int) o 22 [(0, .ref (E.2.1 (k))), (1, .ref (E.2.1 (k1))), (2, .int x2), (4, .int x4), (5, .int x5)] [] σ) (x2 : Int32) (x4 : Int32) (x5 : Int32) (x6 : Int32) (x7 : Int32) (x8 : Int32) (x9 : Int32) (t0 : Int32) (σ : Sg) (hf : f_X2_spend_b103 k k1 r22 x2 x4 x5 x6 x7 x8 x9 t0 σ = some o) : Vx q E L 11 (some .int) o 103 [(0, .ref (E.2.1 (k))), (1, .ref (E.2.1 (k1))), (2, .int x2), (4, .int x4), (5, .int x5), (6, .int x6), (7, .int x7), (8, .int x8), (9, .int x9)] [.int t0] σ := by
  unfold f_X2_spend_b103 at hf
  refine v_istore (lv' := [(0, .ref (E.2.1 (k))), (1, .ref (E.2.1 (k1))), (2, .int x2), (4, .int x4), (5, .int x5), (6, .int x6), (7, .int x7), (8, .int x8), (9, .int x9), (10, .int t0)]) 103 C dX2_spend_103 (by decide) rfl rfl ?_
  refine v_iload 105 C dX2_spend_105 rfl ?_
  refine v_if_eq (tgt := 148) 107 C dX2_spend_107 (by decide) hf (fun hf => ?_) (fun hf => ?_)
  · exact Vx.lv [0, 1, 2, 3, 4] rfl (k_X2_spend_b148 C k k1 hB hB1 r22 hr22 x2 x4 x5 σ hf)
  · refine v_aload_n 110 C dX2_spend_110 rfl rfl ?_
    refine v_getR 111 C lk_X2_44 (hB1 0 _ rfl) (by decide) rfl dX2_spend_111 ?_
    refine v_aload_n 114 C dX2_spend_114 rfl rfl ?_
    refine v_getR 115 C lk_X2_12 (hB 0 _ rfl) (by decide) rfl dX2_spend_115 ?_
    refine v_iload 118 C dX2_spend_118 rfl ?_
    refine v_iload 120 C dX2_spend_120 rfl ?_
    refine v_iload 122 C dX2_spend_122 rfl ?_
    refine v_callV (st := []) 124 C [.ref (E.2.1 (k + 1)), .int x7, .int x8, .int x9] lm_X2_60 ly_X1_isFit ((hB1.sub (sh' := sh_Cut) 1 rfl) 0 _ rfl) (by decide) dX2_spend_124 rfl (by decide) rfl (Nat.le_of_ble_eq_true rfl) (fun o1 h1 => m_X1_isFit (k1 + 1) (k + 1) (hB1.sub (sh' := sh_Cut) 1 rfl) (hB.sub (sh' := sh_Board) 1 rfl) x7 x8 x9 σ o1 h1) hf (fun v1 s2 hf => ?_)
    refine v_if_eq (tgt := 148) 127 C dX2_spend_127 (by decide) hf (fun hf => ?_) (fun hf => ?_)
    · exact Vx.lv [0, 1, 2, 3, 4] rfl (k_X2_spend_b148 C k k1 hB hB1 r22 hr22 x2 x4 x5 s2 hf)
    · refine v_aload_n 130 C dX2_spend_130 rfl rfl ?_
      refine v_getR 131 C lk_X2_12 (hB 0 _ rfl) (by decide) rfl dX2_spend_131 ?_
      refine v_iload 134 C dX2_spend_134 rfl ?_
      refine v_iload 136 C dX2_spend_136 rfl ?_
      refine v_iload 138 C dX2_spend_138 rfl ?_
      refine v_iload 140 C dX2_spend_140 rfl ?_
      refine v_callV (st := []) 142 C [.int x9, .int x7, .int x8, .int x6] lm_X2_64 ly_X0_put ((hB.sub (sh' := sh_Board) 1 rfl) 0 _ rfl) (by decide) dX2_spend_142 rfl (by decide) rfl (Nat.le_of_ble_eq_true rfl) (fun o1 h1 => m_X0_put (k + 1) (hB.sub (sh' := sh_Board) 1 rfl) x9 x7 x8 x6 s2 o1 h1) hf (fun v3 s4 hf => ?_)
      refine v_iinc (v := x4 + 1) (lv' := [(0, .ref (E.2.1 (k))), (1, .ref (E.2.1 (k1))), (2, .int x2), (4, .int (x4 + 1)), (5, .int x5), (6, .int x6), (7, .int x7), (8, .int x8), (9, .int x9), (10, .int t0)]) 145 C dX2_spend_145 rfl (by rfl) (by decide) rfl rfl ?_
      exact Vx.lv [0, 1, 2, 3, 4] rfl (k_X2_spend_b148 C k k1 hB hB1 r22 hr22 x2 (x4 + 1) x5 s4 hf)
def f_X2_spend_b102 (k k1 : Nat) (r22 : Int32 → Int32 → Int32 → Sg → Rs) (x2 : Int32) (x4 : Int32) (x5 : Int32) (x6 : Int32) (x7 : Int32) (x8 : Int32) (x9 : Int32) (σ : Sg) : Rs := f_X2_spend_b103 k k1 r22 x2 x4 x5 x6 x7 x8 x9 0 σ
set_option maxRecDepth 100000 in
set_option maxHeartbeats 4000000 in
theorem k_X2_spend_b102 {q : Mc} {E : En} {L : List Nat} {o : Int32 × Sg} (C : Cx q E L cX2_spend 11 RX2 (some .int) (4)) (k k1 : Nat) (hB : Bk L sh_Evening k) (hB1 : Bk L sh_Game k1) (r22 : Int32 → Int32 → Int32 → Sg → Rs) (hr22 : ∀ (x2 : Int32) (x4 : Int32) (x5 : Int32) (σ : Sg), r22 x2 x4 x5 σ = some o → Vx q E L 11 (some .int) o 22 [(0, .ref (E.2.1 (k))), (1, .ref (E.2.1 (k1))), (2, .int x2), (4, .int x4), (5, .int x5)] [] σ) (x2 : Int32) (x4 : Int32) (x5 : Int32) (x6 : Int32) (x7 : Int32) (x8 : Int32) (x9 : Int32) (σ : Sg) (hf : f_X2_spend_b102 k k1 r22 x2 x4 x5 x6 x7 x8 x9 σ = some o) : Vx q E L 11 (some .int) o 102 [(0, .ref (E.2.1 (k))), (1, .ref (E.2.1 (k1))), (2, .int x2), (4, .int x4), (5, .int x5), (6, .int x6), (7, .int x7), (8, .int x8), (9, .int x9)] [] σ := by
  unfold f_X2_spend_b102 at hf
  refine v_iconst (v := 0) 102 C dX2_spend_102 (by decide) ?_
  exact Vx.lv [0, 1, 2, 3, 4, 5, 6, 7, 8] rfl (k_X2_spend_b103 C k k1 hB hB1 r22 hr22 x2 x4 x5 x6 x7 x8 x9 0 σ hf)
def f_X2_spend_b22 (k k1 : Nat)  : Nat → Int32 → Int32 → Int32 → Sg → Rs
  | 0, _, _, _, _ => none
  | n + 1, x2, x4, x5, σ => if x2 ≤ x5 then (some (x4, σ)) else (p_call (f_X2_draw k (σ (k1 + 12) 0) σ) (fun v1 s2 => p_call (f_X2_draw k (s2 (k1 + 1) 2) s2) (fun v3 s4 => p_call (f_X2_draw k 4 s4) (fun v5 s6 => p_call (f_X2_draw k (s6 (k1 + 1) 2) s6) (fun v7 s8 => p_call (f_X0_isFilled (k + 1) v7 s8) (fun v9 s10 => if v9 = 0 then (p_call (f_X0_isAway (k + 1) v3 s10) (fun v11 s12 => if v11 = 0 then (f_X2_spend_b103 k k1 (f_X2_spend_b22 k k1 n) x2 x4 x5 v1 v3 v5 v7 1 s12) else (f_X2_spend_b102 k k1 (f_X2_spend_b22 k k1 n) x2 x4 x5 v1 v3 v5 v7 s12))) else (f_X2_spend_b102 k k1 (f_X2_spend_b22 k k1 n) x2 x4 x5 v1 v3 v5 v7 s10)))))))
set_option maxRecDepth 100000 in
set_option maxHeartbeats 4000000 in
theorem k_X2_spend_b22 {q : Mc} {E : En} {L : List Nat} {o : Int32 × Sg} (C : Cx q E L cX2_spend 11 RX2 (some .int) (4)) (k k1 : Nat) (hB : Bk L sh_Evening k) (hB1 : Bk L sh_Game k1) (n : Nat) : ∀ (x2 : Int32) (x4 : Int32) (x5 : Int32) (σ : Sg), f_X2_spend_b22 k k1 n x2 x4 x5 σ = some o → Vx q E L 11 (some .int) o 22 [(0, .ref (E.2.1 (k))), (1, .ref (E.2.1 (k1))), (2, .int x2), (4, .int x4), (5, .int x5)] [] σ := by
  induction n with
  | zero => intro x2 x4 x5 σ hf; cases (show (none : Rs) = some o from hf)
  | succ n ih =>
    intro x2 x4 x5 σ hf
    rw [f_X2_spend_b22] at hf
    refine v_iload 22 C dX2_spend_22 rfl ?_
    refine v_iload_n 24 C dX2_spend_24 rfl rfl ?_
    refine v_icmp_ge (tgt := 154) 25 C dX2_spend_25 (by decide) hf (fun hf => ?_) (fun hf => ?_)
    · refine v_iload 154 C dX2_spend_154 rfl ?_
      exact v_iret 156 C rfl dX2_spend_156 hf
    · refine v_aload_n 28 C dX2_spend_28 rfl rfl ?_
      refine v_aload_n 29 C dX2_spend_29 rfl rfl ?_
      refine v_getR 30 C lk_X2_31 (hB1 0 _ rfl) (by decide) rfl dX2_spend_30 ?_
      refine v_getI (dum := 0) 33 C lk_X2_35 ((hB1.sub (sh' := sh_People) 12 rfl) 0 _ rfl) (by decide) rfl dX2_spend_33 ?_
      refine v_callV (st := []) 36 C [.int (σ (k1 + 12) 0)] lm_X2_40 ly_X2_draw (hB 0 _ rfl) (by decide) dX2_spend_36 rfl (by decide) rfl (Nat.le_of_ble_eq_true rfl) (fun o1 h1 => m_X2_draw k hB (σ (k1 + 12) 0) σ o1 h1) hf (fun v1 s2 hf => ?_)
      refine v_istore (lv' := [(0, .ref (E.2.1 (k))), (1, .ref (E.2.1 (k1))), (2, .int x2), (4, .int x4), (5, .int x5), (6, .int v1)]) 39 C dX2_spend_39 (by decide) rfl rfl ?_
      refine v_aload_n 41 C dX2_spend_41 rfl rfl ?_
      refine v_aload_n 42 C dX2_spend_42 rfl rfl ?_
      refine v_getR 43 C lk_X2_44 (hB1 0 _ rfl) (by decide) rfl dX2_spend_43 ?_
      refine v_getI (dum := 0) 46 C lk_X2_48 ((hB1.sub (sh' := sh_Cut) 1 rfl) 0 _ rfl) (by decide) rfl dX2_spend_46 ?_
      refine v_callV (st := []) 49 C [.int (s2 (k1 + 1) 2)] lm_X2_40 ly_X2_draw (hB 0 _ rfl) (by decide) dX2_spend_49 rfl (by decide) rfl (Nat.le_of_ble_eq_true rfl) (fun o1 h1 => m_X2_draw k hB (s2 (k1 + 1) 2) s2 o1 h1) hf (fun v3 s4 hf => ?_)
      refine v_istore (lv' := [(0, .ref (E.2.1 (k))), (1, .ref (E.2.1 (k1))), (2, .int x2), (4, .int x4), (5, .int x5), (6, .int v1), (7, .int v3)]) 52 C dX2_spend_52 (by decide) rfl rfl ?_
      refine v_aload_n 54 C dX2_spend_54 rfl rfl ?_
      refine v_iconst (v := 4) 55 C dX2_spend_55 (by decide) ?_
      refine v_callV (st := []) 56 C [.int 4] lm_X2_40 ly_X2_draw (hB 0 _ rfl) (by decide) dX2_spend_56 rfl (by decide) rfl (Nat.le_of_ble_eq_true rfl) (fun o1 h1 => m_X2_draw k hB 4 s4 o1 h1) hf (fun v5 s6 hf => ?_)
      refine v_istore (lv' := [(0, .ref (E.2.1 (k))), (1, .ref (E.2.1 (k1))), (2, .int x2), (4, .int x4), (5, .int x5), (6, .int v1), (7, .int v3), (8, .int v5)]) 59 C dX2_spend_59 (by decide) rfl rfl ?_
      refine v_aload_n 61 C dX2_spend_61 rfl rfl ?_
      refine v_aload_n 62 C dX2_spend_62 rfl rfl ?_
      refine v_getR 63 C lk_X2_44 (hB1 0 _ rfl) (by decide) rfl dX2_spend_63 ?_
      refine v_getI (dum := 0) 66 C lk_X2_48 ((hB1.sub (sh' := sh_Cut) 1 rfl) 0 _ rfl) (by decide) rfl dX2_spend_66 ?_
      refine v_callV (st := []) 69 C [.int (s6 (k1 + 1) 2)] lm_X2_40 ly_X2_draw (hB 0 _ rfl) (by decide) dX2_spend_69 rfl (by decide) rfl (Nat.le_of_ble_eq_true rfl) (fun o1 h1 => m_X2_draw k hB (s6 (k1 + 1) 2) s6 o1 h1) hf (fun v7 s8 hf => ?_)
      refine v_istore (lv' := [(0, .ref (E.2.1 (k))), (1, .ref (E.2.1 (k1))), (2, .int x2), (4, .int x4), (5, .int x5), (6, .int v1), (7, .int v3), (8, .int v5), (9, .int v7)]) 72 C dX2_spend_72 (by decide) rfl rfl ?_
      refine v_aload_n 74 C dX2_spend_74 rfl rfl ?_
      refine v_getR 75 C lk_X2_12 (hB 0 _ rfl) (by decide) rfl dX2_spend_75 ?_
      refine v_iload 78 C dX2_spend_78 rfl ?_
      refine v_callV (st := []) 80 C [.int v7] lm_X2_53 ly_X0_isFilled ((hB.sub (sh' := sh_Board) 1 rfl) 0 _ rfl) (by decide) dX2_spend_80 rfl (by decide) rfl (Nat.le_of_ble_eq_true rfl) (fun o1 h1 => m_X0_isFilled (k + 1) (hB.sub (sh' := sh_Board) 1 rfl) v7 s8 o1 h1) hf (fun v9 s10 hf => ?_)
      refine v_if_ne (tgt := 102) 83 C dX2_spend_83 (by decide) hf (fun hf => ?_) (fun hf => ?_)
      · exact Vx.lv [0, 1, 2, 3, 4, 5, 6, 7, 8] rfl (k_X2_spend_b102 C k k1 hB hB1 (f_X2_spend_b22 k k1 n) ih x2 x4 x5 v1 v3 v5 v7 s10 hf)
      · refine v_aload_n 86 C dX2_spend_86 rfl rfl ?_
        refine v_getR 87 C lk_X2_12 (hB 0 _ rfl) (by decide) rfl dX2_spend_87 ?_
        refine v_iload 90 C dX2_spend_90 rfl ?_
        refine v_callV (st := []) 92 C [.int v3] lm_X2_57 ly_X0_isAway ((hB.sub (sh' := sh_Board) 1 rfl) 0 _ rfl) (by decide) dX2_spend_92 rfl (by decide) rfl (Nat.le_of_ble_eq_true rfl) (fun o1 h1 => m_X0_isAway (k + 1) (hB.sub (sh' := sh_Board) 1 rfl) v3 s10 o1 h1) hf (fun v11 s12 hf => ?_)
        refine v_if_ne (tgt := 102) 95 C dX2_spend_95 (by decide) hf (fun hf => ?_) (fun hf => ?_)
        · exact Vx.lv [0, 1, 2, 3, 4, 5, 6, 7, 8] rfl (k_X2_spend_b102 C k k1 hB hB1 (f_X2_spend_b22 k k1 n) ih x2 x4 x5 v1 v3 v5 v7 s12 hf)
        · refine v_iconst (v := 1) 98 C dX2_spend_98 (by decide) ?_
          refine v_goto (tgt := 103) 99 C dX2_spend_99 (by decide) ?_
          exact Vx.lv [0, 1, 2, 3, 4, 5, 6, 7, 8] rfl (k_X2_spend_b103 C k k1 hB hB1 (f_X2_spend_b22 k k1 n) ih x2 x4 x5 v1 v3 v5 v7 1 s12 hf)
def f_X2_spend (k k1 : Nat) (x2 : Int32) (x3 : Int32) (σ : Sg) : Rs := p_put σ (k) 1 x3 (fun s1 => p_call (f_X0_copyFrom (k + 1) (k1 + 6) s1) (fun v2 s3 => f_X2_spend_b22 k k1 fu x2 0 0 s3))
set_option maxRecDepth 100000 in
set_option maxHeartbeats 4000000 in
theorem k_X2_spend_b0 {q : Mc} {E : En} {L : List Nat} {o : Int32 × Sg} (C : Cx q E L cX2_spend 11 RX2 (some .int) (4)) (k k1 : Nat) (hB : Bk L sh_Evening k) (hB1 : Bk L sh_Game k1) (x2 : Int32) (x3 : Int32) (σ : Sg) (hf : f_X2_spend k k1 x2 x3 σ = some o) : Vx q E L 11 (some .int) o 0 [(0, .ref (E.2.1 (k))), (1, .ref (E.2.1 (k1))), (2, .int x2), (3, .int x3)] [] σ := by
  unfold f_X2_spend at hf
  refine v_iconst (v := 0) 0 C dX2_spend_0 (by decide) ?_
  refine v_istore (lv' := [(0, .ref (E.2.1 (k))), (1, .ref (E.2.1 (k1))), (2, .int x2), (3, .int x3), (4, .int 0)]) 1 C dX2_spend_1 (by decide) rfl rfl ?_
  refine v_aload_n 3 C dX2_spend_3 rfl rfl ?_
  refine v_iload_n 4 C dX2_spend_4 rfl rfl ?_
  refine v_putI 5 C lp_X2_18 (hB 0 _ rfl) (by decide) rfl dX2_spend_5 hf (fun s1 hf => ?_)
  refine v_aload_n 8 C dX2_spend_8 rfl rfl ?_
  refine v_getR 9 C lk_X2_12 (hB 0 _ rfl) (by decide) rfl dX2_spend_9 ?_
  refine v_aload_n 12 C dX2_spend_12 rfl rfl ?_
  refine v_getR 13 C lk_X2_22 (hB1 0 _ rfl) (by decide) rfl dX2_spend_13 ?_
  refine v_callV (st := []) 16 C [.ref (E.2.1 (k1 + 6))] lm_X2_27 ly_X0_copyFrom ((hB.sub (sh' := sh_Board) 1 rfl) 0 _ rfl) (by decide) dX2_spend_16 rfl (by decide) rfl (Nat.le_of_ble_eq_true rfl) (fun o1 h1 => m_X0_copyFrom (k + 1) (k1 + 6) (hB.sub (sh' := sh_Board) 1 rfl) (hB1.sub (sh' := sh_Board) 6 rfl)  s1 o1 h1) hf (fun v2 s3 hf => ?_)
  refine v_iconst (v := 0) 19 C dX2_spend_19 (by decide) ?_
  refine v_istore (lv' := [(0, .ref (E.2.1 (k))), (1, .ref (E.2.1 (k1))), (2, .int x2), (3, .int x3), (4, .int 0), (5, .int 0)]) 20 C dX2_spend_20 (by decide) rfl rfl ?_
  exact Vx.lv [0, 1, 2, 4, 5] rfl (k_X2_spend_b22 C k k1 hB hB1 fu x2 0 0 s3 hf)
theorem m_X2_spend {l : Launch} {E : En} {L : List Nat} (k k1 : Nat) (hB : Bk L sh_Evening k) (hB1 : Bk L sh_Game k1) (x2 : Int32) (x3 : Int32) (σ : Sg) (o : Int32 × Sg) (hf : f_X2_spend k k1 x2 x3 σ = some o) : Mi l yX2_spend cX2_spend 11 (some .int) (4) E L [.ref (E.2.1 (k)), .ref (E.2.1 (k1)), .int x2, .int x3] σ o :=
  Mi.of RX2 rfl (by decide) (Nat.le_of_ble_eq_true rfl) (fun q hq C => by subst hq; exact k_X2_spend_b0 C k k1 hB hB1 x2 x3 σ hf)
def f_X5_clear_b2 (a0 n0 : Nat)  : Nat → Int32 → Sg → Rs
  | 0, _, _ => none
  | n + 1, x1, σ => if (Int32.ofNat n0) ≤ x1 then (some (0, σ)) else (p_wr σ (a0) n0 x1 0 (fun s1 => f_X5_clear_b2 a0 n0 n (x1 + 1) s1))
set_option maxRecDepth 100000 in
set_option maxHeartbeats 4000000 in
theorem k_X5_clear_b2 {q : Mc} {E : En} {L : List Nat} {o : Int32 × Sg} (C : Cx q E L cX5_clear 2 RX5 none (1)) (a0 n0 : Nat) (ha0 : Lc L a0 (12, n0)) (n : Nat) : ∀ (x1 : Int32) (σ : Sg), f_X5_clear_b2 a0 n0 n x1 σ = some o → Vx q E L 2 none o 2 [(0, .ref (E.2.1 (a0))), (1, .int x1)] [] σ := by
  induction n with
  | zero => intro x1 σ hf; cases (show (none : Rs) = some o from hf)
  | succ n ih =>
    intro x1 σ hf
    rw [f_X5_clear_b2] at hf
    refine v_iload_n 2 C dX5_clear_2 rfl rfl ?_
    refine v_aload_n 3 C dX5_clear_3 rfl rfl ?_
    refine v_alen (v := (Int32.ofNat n0)) 4 C ha0 (Or.inl rfl) rfl dX5_clear_4 ?_
    refine v_icmp_ge (tgt := 18) 5 C dX5_clear_5 (by decide) hf (fun hf => ?_) (fun hf => ?_)
    · exact v_ret (r := 0) 18 C rfl dX5_clear_18 hf
    · refine v_aload_n 8 C dX5_clear_8 rfl rfl ?_
      refine v_iload_n 9 C dX5_clear_9 rfl rfl ?_
      refine v_iconst (v := 0) 10 C dX5_clear_10 (by decide) ?_
      refine v_iast 11 C ha0 dX5_clear_11 hf (fun s1 hf => ?_)
      refine v_iinc (v := x1 + 1) (lv' := [(0, .ref (E.2.1 (a0))), (1, .int (x1 + 1))]) 12 C dX5_clear_12 rfl (by rfl) (by decide) rfl rfl ?_
      refine v_goto (tgt := 2) 15 C dX5_clear_15 (by decide) ?_
      exact Vx.lv [0, 1] rfl (ih (x1 + 1) s1 hf)
def f_X5_clear (a0 n0 : Nat) (σ : Sg) : Rs := f_X5_clear_b2 a0 n0 fu 0 σ
set_option maxRecDepth 100000 in
set_option maxHeartbeats 4000000 in
theorem k_X5_clear_b0 {q : Mc} {E : En} {L : List Nat} {o : Int32 × Sg} (C : Cx q E L cX5_clear 2 RX5 none (1)) (a0 n0 : Nat) (ha0 : Lc L a0 (12, n0)) (σ : Sg) (hf : f_X5_clear a0 n0 σ = some o) : Vx q E L 2 none o 0 [(0, .ref (E.2.1 (a0)))] [] σ := by
  unfold f_X5_clear at hf
  refine v_iconst (v := 0) 0 C dX5_clear_0 (by decide) ?_
  refine v_istore_n (lv' := [(0, .ref (E.2.1 (a0))), (1, .int 0)]) 1 C dX5_clear_1 rfl (by decide) rfl rfl ?_
  exact Vx.lv [0, 1] rfl (k_X5_clear_b2 C a0 n0 ha0 fu 0 σ hf)
theorem m_X5_clear {l : Launch} {E : En} {L : List Nat} (a0 n0 : Nat) (ha0 : Lc L a0 (12, n0)) (σ : Sg) (o : Int32 × Sg) (hf : f_X5_clear a0 n0 σ = some o) : Mi l yX5_clear cX5_clear 2 none (1) E L [.ref (E.2.1 (a0))] σ o :=
  Mi.of RX5 rfl (by decide) (Nat.le_of_ble_eq_true rfl) (fun q hq C => by subst hq; exact k_X5_clear_b0 C a0 n0 ha0  σ hf)
def f_X5_add_b38 (a0 n0 k1 : Nat) (r3 : Int32 → Int32 → Int32 → Sg → Rs) (x2 : Int32) (x3 : Int32) (x4 : Int32) (t1 : Int32) (t2 : Int32) (t3 : Int32) (σ : Sg) : Rs := p_wr σ (a0) n0 t1 (t2 + t3) (fun s1 => r3 x2 x3 (x4 + 1) s1)
set_option maxRecDepth 100000 in
set_option maxHeartbeats 4000000 in
theorem k_X5_add_b38 {q : Mc} {E : En} {L : List Nat} {o : Int32 × Sg} (C : Cx q E L cX5_add 6 RX5 none (2)) (a0 n0 k1 : Nat) (ha0 : Lc L a0 (12, n0)) (hB1 : Bk L sh_Cut k1) (r3 : Int32 → Int32 → Int32 → Sg → Rs) (hr3 : ∀ (x2 : Int32) (x3 : Int32) (x4 : Int32) (σ : Sg), r3 x2 x3 x4 σ = some o → Vx q E L 6 none o 3 [(0, .ref (E.2.1 (a0))), (1, .ref (E.2.1 (k1))), (2, .int x2), (3, .int x3), (4, .int x4)] [] σ) (x2 : Int32) (x3 : Int32) (x4 : Int32) (t1 : Int32) (t2 : Int32) (t3 : Int32) (σ : Sg) (hf : f_X5_add_b38 a0 n0 k1 r3 x2 x3 x4 t1 t2 t3 σ = some o) : Vx q E L 6 none o 38 [(0, .ref (E.2.1 (a0))), (1, .ref (E.2.1 (k1))), (2, .int x2), (3, .int x3), (4, .int x4)] [.int t3, .int t2, .int t1, .ref (E.2.1 (a0))] σ := by
  unfold f_X5_add_b38 at hf
  refine v_iadd 38 C dX5_add_38 ?_
  refine v_iast 39 C ha0 dX5_add_39 hf (fun s1 hf => ?_)
  refine v_iinc (v := x4 + 1) (lv' := [(0, .ref (E.2.1 (a0))), (1, .ref (E.2.1 (k1))), (2, .int x2), (3, .int x3), (4, .int (x4 + 1))]) 40 C dX5_add_40 rfl (by rfl) (by decide) rfl rfl ?_
  refine v_goto (tgt := 3) 43 C dX5_add_43 (by decide) ?_
  exact Vx.lv [0, 1, 2, 3, 4] rfl (hr3 x2 x3 (x4 + 1) s1 hf)
def f_X5_add_b3 (a0 n0 k1 : Nat)  : Nat → Int32 → Int32 → Int32 → Sg → Rs
  | 0, _, _, _, _ => none
  | n + 1, x2, x3, x4, σ => if 4 ≤ x4 then (some (0, σ)) else (p_call (f_X1_sideOf k1 x2 0 x4 σ) (fun v1 s2 => p_rd s2 (a0) n0 (jabs v1) (fun v3 => if 0 ≤ v1 then (f_X5_add_b38 a0 n0 k1 (f_X5_add_b3 a0 n0 k1 n) x2 x3 x4 (jabs v1) v3 x3 s2) else (f_X5_add_b38 a0 n0 k1 (f_X5_add_b3 a0 n0 k1 n) x2 x3 x4 (jabs v1) v3 (-x3) s2))))
set_option maxRecDepth 100000 in
set_option maxHeartbeats 4000000 in
theorem k_X5_add_b3 {q : Mc} {E : En} {L : List Nat} {o : Int32 × Sg} (C : Cx q E L cX5_add 6 RX5 none (2)) (a0 n0 k1 : Nat) (ha0 : Lc L a0 (12, n0)) (hB1 : Bk L sh_Cut k1) (n : Nat) : ∀ (x2 : Int32) (x3 : Int32) (x4 : Int32) (σ : Sg), f_X5_add_b3 a0 n0 k1 n x2 x3 x4 σ = some o → Vx q E L 6 none o 3 [(0, .ref (E.2.1 (a0))), (1, .ref (E.2.1 (k1))), (2, .int x2), (3, .int x3), (4, .int x4)] [] σ := by
  induction n with
  | zero => intro x2 x3 x4 σ hf; cases (show (none : Rs) = some o from hf)
  | succ n ih =>
    intro x2 x3 x4 σ hf
    rw [f_X5_add_b3] at hf
    refine v_iload 3 C dX5_add_3 rfl ?_
    refine v_iconst (v := 4) 5 C dX5_add_5 (by decide) ?_
    refine v_icmp_ge (tgt := 46) 6 C dX5_add_6 (by decide) hf (fun hf => ?_) (fun hf => ?_)
    · exact v_ret (r := 0) 46 C rfl dX5_add_46 hf
    · refine v_aload_n 9 C dX5_add_9 rfl rfl ?_
      refine v_iload_n 10 C dX5_add_10 rfl rfl ?_
      refine v_iconst (v := 0) 11 C dX5_add_11 (by decide) ?_
      refine v_iload 12 C dX5_add_12 rfl ?_
      refine v_callV (st := []) 14 C [.int x2, .int 0, .int x4] lm_X5_61 ly_X1_sideOf (hB1 0 _ rfl) (by decide) dX5_add_14 rfl (by decide) rfl (Nat.le_of_ble_eq_true rfl) (fun o1 h1 => m_X1_sideOf k1 hB1 x2 0 x4 σ o1 h1) hf (fun v1 s2 hf => ?_)
      refine v_istore (lv' := [(0, .ref (E.2.1 (a0))), (1, .ref (E.2.1 (k1))), (2, .int x2), (3, .int x3), (4, .int x4), (5, .int v1)]) 17 C dX5_add_17 (by decide) rfl rfl ?_
      refine v_aload_n 19 C dX5_add_19 rfl rfl ?_
      refine v_iload 20 C dX5_add_20 rfl ?_
      refine v_mabs 22 C lmm_X5_65 lma_abs (by decide) (Nat.le_of_ble_eq_true rfl) dX5_add_22 ?_
      refine v_dup2 25 C dX5_add_25 rfl rfl ?_
      refine v_iald 26 C ha0 dX5_add_26 hf (fun v3 hf => ?_)
      refine v_iload 27 C dX5_add_27 rfl ?_
      refine v_if_ge (tgt := 37) 29 C dX5_add_29 (by decide) hf (fun hf => ?_) (fun hf => ?_)
      · refine v_iload_n 37 C dX5_add_37 rfl rfl ?_
        exact Vx.lv [0, 1, 2, 3, 4] rfl (k_X5_add_b38 C a0 n0 k1 ha0 hB1 (f_X5_add_b3 a0 n0 k1 n) ih x2 x3 x4 (jabs v1) v3 x3 s2 hf)
      · refine v_iload_n 32 C dX5_add_32 rfl rfl ?_
        refine v_ineg 33 C dX5_add_33 ?_
        refine v_goto (tgt := 38) 34 C dX5_add_34 (by decide) ?_
        exact Vx.lv [0, 1, 2, 3, 4] rfl (k_X5_add_b38 C a0 n0 k1 ha0 hB1 (f_X5_add_b3 a0 n0 k1 n) ih x2 x3 x4 (jabs v1) v3 (-x3) s2 hf)
def f_X5_add (a0 n0 k1 : Nat) (x2 : Int32) (x3 : Int32) (σ : Sg) : Rs := f_X5_add_b3 a0 n0 k1 fu x2 x3 0 σ
set_option maxRecDepth 100000 in
set_option maxHeartbeats 4000000 in
theorem k_X5_add_b0 {q : Mc} {E : En} {L : List Nat} {o : Int32 × Sg} (C : Cx q E L cX5_add 6 RX5 none (2)) (a0 n0 k1 : Nat) (ha0 : Lc L a0 (12, n0)) (hB1 : Bk L sh_Cut k1) (x2 : Int32) (x3 : Int32) (σ : Sg) (hf : f_X5_add a0 n0 k1 x2 x3 σ = some o) : Vx q E L 6 none o 0 [(0, .ref (E.2.1 (a0))), (1, .ref (E.2.1 (k1))), (2, .int x2), (3, .int x3)] [] σ := by
  unfold f_X5_add at hf
  refine v_iconst (v := 0) 0 C dX5_add_0 (by decide) ?_
  refine v_istore (lv' := [(0, .ref (E.2.1 (a0))), (1, .ref (E.2.1 (k1))), (2, .int x2), (3, .int x3), (4, .int 0)]) 1 C dX5_add_1 (by decide) rfl rfl ?_
  exact Vx.lv [0, 1, 2, 3, 4] rfl (k_X5_add_b3 C a0 n0 k1 ha0 hB1 fu x2 x3 0 σ hf)
theorem m_X5_add {l : Launch} {E : En} {L : List Nat} (a0 n0 k1 : Nat) (ha0 : Lc L a0 (12, n0)) (hB1 : Bk L sh_Cut k1) (x2 : Int32) (x3 : Int32) (σ : Sg) (o : Int32 × Sg) (hf : f_X5_add a0 n0 k1 x2 x3 σ = some o) : Mi l yX5_add cX5_add 6 none (2) E L [.ref (E.2.1 (a0)), .ref (E.2.1 (k1)), .int x2, .int x3] σ o :=
  Mi.of RX5 rfl (by decide) (Nat.le_of_ble_eq_true rfl) (fun q hq C => by subst hq; exact k_X5_add_b0 C a0 n0 k1 ha0 hB1 x2 x3 σ hf)
def f_X5_weigh_b65 (k k1 : Nat) (r16 : Int32 → Sg → Rs) (x2 : Int32) (σ : Sg) : Rs := r16 (x2 + 1) σ
set_option maxRecDepth 100000 in
set_option maxHeartbeats 4000000 in
theorem k_X5_weigh_b65 {q : Mc} {E : En} {L : List Nat} {o : Int32 × Sg} (C : Cx q E L cX5_weigh 3 RX5 none (3)) (k k1 : Nat) (hB : Bk L sh_Pile k) (hB1 : Bk L sh_Game k1) (r16 : Int32 → Sg → Rs) (hr16 : ∀ (x2 : Int32) (σ : Sg), r16 x2 σ = some o → Vx q E L 3 none o 16 [(0, .ref (E.2.1 (k))), (1, .ref (E.2.1 (k1))), (2, .int x2)] [] σ) (x2 : Int32) (σ : Sg) (hf : f_X5_weigh_b65 k k1 r16 x2 σ = some o) : Vx q E L 3 none o 65 [(0, .ref (E.2.1 (k))), (1, .ref (E.2.1 (k1))), (2, .int x2)] [] σ := by
  unfold f_X5_weigh_b65 at hf
  refine v_iinc (v := x2 + 1) (lv' := [(0, .ref (E.2.1 (k))), (1, .ref (E.2.1 (k1))), (2, .int (x2 + 1))]) 65 C dX5_weigh_65 rfl (by rfl) (by decide) rfl rfl ?_
  refine v_goto (tgt := 16) 68 C dX5_weigh_68 (by decide) ?_
  exact Vx.lv [0, 1, 2] rfl (hr16 (x2 + 1) σ hf)
def f_X5_weigh_b16 (k k1 : Nat)  : Nat → Int32 → Sg → Rs
  | 0, _, _ => none
  | n + 1, x2, σ => if (σ (k1 + 1) 2) ≤ x2 then (some (0, σ)) else (p_call (f_X5_add (k + 1) 10 (k1 + 1) x2 1 σ) (fun v1 s2 => p_rd s2 (k1 + 6 + 5) 16 x2 (fun v3 => if v3 = 0 then (p_call (f_X5_add (k + 2) 10 (k1 + 1) x2 1 s2) (fun v4 s5 => f_X5_weigh_b65 k k1 (f_X5_weigh_b16 k k1 n) x2 s5)) else (f_X5_weigh_b65 k k1 (f_X5_weigh_b16 k k1 n) x2 s2))))
set_option maxRecDepth 100000 in
set_option maxHeartbeats 4000000 in
theorem k_X5_weigh_b16 {q : Mc} {E : En} {L : List Nat} {o : Int32 × Sg} (C : Cx q E L cX5_weigh 3 RX5 none (3)) (k k1 : Nat) (hB : Bk L sh_Pile k) (hB1 : Bk L sh_Game k1) (n : Nat) : ∀ (x2 : Int32) (σ : Sg), f_X5_weigh_b16 k k1 n x2 σ = some o → Vx q E L 3 none o 16 [(0, .ref (E.2.1 (k))), (1, .ref (E.2.1 (k1))), (2, .int x2)] [] σ := by
  induction n with
  | zero => intro x2 σ hf; cases (show (none : Rs) = some o from hf)
  | succ n ih =>
    intro x2 σ hf
    rw [f_X5_weigh_b16] at hf
    refine v_iload_n 16 C dX5_weigh_16 rfl rfl ?_
    refine v_aload_n 17 C dX5_weigh_17 rfl rfl ?_
    refine v_getR 18 C lk_X5_25 (hB1 0 _ rfl) (by decide) rfl dX5_weigh_18 ?_
    refine v_getI (dum := 0) 21 C lk_X5_31 ((hB1.sub (sh' := sh_Cut) 1 rfl) 0 _ rfl) (by decide) rfl dX5_weigh_21 ?_
    refine v_icmp_ge (tgt := 71) 24 C dX5_weigh_24 (by decide) hf (fun hf => ?_) (fun hf => ?_)
    · exact v_ret (r := 0) 71 C rfl dX5_weigh_71 hf
    · refine v_aload_n 27 C dX5_weigh_27 rfl rfl ?_
      refine v_getR 28 C lk_X5_9 (hB 0 _ rfl) (by decide) rfl dX5_weigh_28 ?_
      refine v_aload_n 31 C dX5_weigh_31 rfl rfl ?_
      refine v_getR 32 C lk_X5_25 (hB1 0 _ rfl) (by decide) rfl dX5_weigh_32 ?_
      refine v_iload_n 35 C dX5_weigh_35 rfl rfl ?_
      refine v_iconst (v := 1) 36 C dX5_weigh_36 (by decide) ?_
      refine v_callS (st := []) 37 C [.ref (E.2.1 (k + 1)), .ref (E.2.1 (k1 + 1)), .int x2, .int 1] lm_X5_37 lz_X5_add dX5_weigh_37 rfl (by decide) rfl (Nat.le_of_ble_eq_true rfl) (fun o1 h1 => m_X5_add (k + 1) 10 (k1 + 1) (hB 1 _ rfl) (hB1.sub (sh' := sh_Cut) 1 rfl) x2 1 σ o1 h1) hf (fun v1 s2 hf => ?_)
      refine v_aload_n 40 C dX5_weigh_40 rfl rfl ?_
      refine v_getR 41 C lk_X5_41 (hB1 0 _ rfl) (by decide) rfl dX5_weigh_41 ?_
      refine v_getR 44 C lk_X5_45 ((hB1.sub (sh' := sh_Board) 6 rfl) 0 _ rfl) (by decide) rfl dX5_weigh_44 ?_
      refine v_iload_n 47 C dX5_weigh_47 rfl rfl ?_
      refine v_zald 48 C ((hB1.sub (sh' := sh_Board) 6 rfl) 5 _ rfl) dX5_weigh_48 hf (fun v3 hf => ?_)
      refine v_if_ne (tgt := 65) 49 C dX5_weigh_49 (by decide) hf (fun hf => ?_) (fun hf => ?_)
      · exact Vx.lv [0, 1, 2] rfl (k_X5_weigh_b65 C k k1 hB hB1 (f_X5_weigh_b16 k k1 n) ih x2 s2 hf)
      · refine v_aload_n 52 C dX5_weigh_52 rfl rfl ?_
        refine v_getR 53 C lk_X5_15 (hB 0 _ rfl) (by decide) rfl dX5_weigh_53 ?_
        refine v_aload_n 56 C dX5_weigh_56 rfl rfl ?_
        refine v_getR 57 C lk_X5_25 (hB1 0 _ rfl) (by decide) rfl dX5_weigh_57 ?_
        refine v_iload_n 60 C dX5_weigh_60 rfl rfl ?_
        refine v_iconst (v := 1) 61 C dX5_weigh_61 (by decide) ?_
        refine v_callS (st := []) 62 C [.ref (E.2.1 (k + 2)), .ref (E.2.1 (k1 + 1)), .int x2, .int 1] lm_X5_37 lz_X5_add dX5_weigh_62 rfl (by decide) rfl (Nat.le_of_ble_eq_true rfl) (fun o1 h1 => m_X5_add (k + 2) 10 (k1 + 1) (hB 2 _ rfl) (hB1.sub (sh' := sh_Cut) 1 rfl) x2 1 s2 o1 h1) hf (fun v4 s5 hf => ?_)
        exact Vx.lv [0, 1, 2] rfl (k_X5_weigh_b65 C k k1 hB hB1 (f_X5_weigh_b16 k k1 n) ih x2 s5 hf)
def f_X5_weigh (k k1 : Nat) (σ : Sg) : Rs := p_call (f_X5_clear (k + 1) 10 σ) (fun v1 s2 => p_call (f_X5_clear (k + 2) 10 s2) (fun v3 s4 => f_X5_weigh_b16 k k1 fu 0 s4))
set_option maxRecDepth 100000 in
set_option maxHeartbeats 4000000 in
theorem k_X5_weigh_b0 {q : Mc} {E : En} {L : List Nat} {o : Int32 × Sg} (C : Cx q E L cX5_weigh 3 RX5 none (3)) (k k1 : Nat) (hB : Bk L sh_Pile k) (hB1 : Bk L sh_Game k1) (σ : Sg) (hf : f_X5_weigh k k1 σ = some o) : Vx q E L 3 none o 0 [(0, .ref (E.2.1 (k))), (1, .ref (E.2.1 (k1)))] [] σ := by
  unfold f_X5_weigh at hf
  refine v_aload_n 0 C dX5_weigh_0 rfl rfl ?_
  refine v_getR 1 C lk_X5_9 (hB 0 _ rfl) (by decide) rfl dX5_weigh_1 ?_
  refine v_callS (st := []) 4 C [.ref (E.2.1 (k + 1))] lm_X5_21 lz_X5_clear dX5_weigh_4 rfl (by decide) rfl (Nat.le_of_ble_eq_true rfl) (fun o1 h1 => m_X5_clear (k + 1) 10 (hB 1 _ rfl)  σ o1 h1) hf (fun v1 s2 hf => ?_)
  refine v_aload_n 7 C dX5_weigh_7 rfl rfl ?_
  refine v_getR 8 C lk_X5_15 (hB 0 _ rfl) (by decide) rfl dX5_weigh_8 ?_
  refine v_callS (st := []) 11 C [.ref (E.2.1 (k + 2))] lm_X5_21 lz_X5_clear dX5_weigh_11 rfl (by decide) rfl (Nat.le_of_ble_eq_true rfl) (fun o1 h1 => m_X5_clear (k + 2) 10 (hB 2 _ rfl)  s2 o1 h1) hf (fun v3 s4 hf => ?_)
  refine v_iconst (v := 0) 14 C dX5_weigh_14 (by decide) ?_
  refine v_istore_n (lv' := [(0, .ref (E.2.1 (k))), (1, .ref (E.2.1 (k1))), (2, .int 0)]) 15 C dX5_weigh_15 rfl (by decide) rfl rfl ?_
  exact Vx.lv [0, 1, 2] rfl (k_X5_weigh_b16 C k k1 hB hB1 fu 0 s4 hf)
theorem m_X5_weigh {l : Launch} {E : En} {L : List Nat} (k k1 : Nat) (hB : Bk L sh_Pile k) (hB1 : Bk L sh_Game k1) (σ : Sg) (o : Int32 × Sg) (hf : f_X5_weigh k k1 σ = some o) : Mi l yX5_weigh cX5_weigh 3 none (3) E L [.ref (E.2.1 (k)), .ref (E.2.1 (k1))] σ o :=
  Mi.of RX5 rfl (by decide) (Nat.le_of_ble_eq_true rfl) (fun q hq C => by subst hq; exact k_X5_weigh_b0 C k k1 hB hB1  σ hf)
def f_X5_isShort_b2 (k : Nat)  : Nat → Int32 → Sg → Rs
  | 0, _, _ => none
  | n + 1, x1, σ => if 9 < x1 then (p_rd σ (k + 2) 10 0 (fun v1 => p_rd σ (k + 1) 10 0 (fun v2 => if v2 ≤ v1 then (some (0, σ)) else (some (1, σ))))) else (p_rd σ (k + 2) 10 x1 (fun v3 => if v3 = 0 then (f_X5_isShort_b2 k n (x1 + 1) σ) else (some (1, σ))))
set_option maxRecDepth 100000 in
set_option maxHeartbeats 4000000 in
theorem k_X5_isShort_b2 {q : Mc} {E : En} {L : List Nat} {o : Int32 × Sg} (C : Cx q E L cX5_isShort 2 RX5 (some .boolean) (1)) (k : Nat) (hB : Bk L sh_Pile k) (n : Nat) : ∀ (x1 : Int32) (σ : Sg), f_X5_isShort_b2 k n x1 σ = some o → Vx q E L 2 (some .boolean) o 2 [(0, .ref (E.2.1 (k))), (1, .int x1)] [] σ := by
  induction n with
  | zero => intro x1 σ hf; cases (show (none : Rs) = some o from hf)
  | succ n ih =>
    intro x1 σ hf
    rw [f_X5_isShort_b2] at hf
    refine v_iload_n 2 C dX5_isShort_2 rfl rfl ?_
    refine v_bipush (v := 9) 3 C dX5_isShort_3 (by decide) ?_
    refine v_icmp_gt (tgt := 25) 5 C dX5_isShort_5 (by decide) hf (fun hf => ?_) (fun hf => ?_)
    · refine v_aload_n 25 C dX5_isShort_25 rfl rfl ?_
      refine v_getR 26 C lk_X5_15 (hB 0 _ rfl) (by decide) rfl dX5_isShort_26 ?_
      refine v_iconst (v := 0) 29 C dX5_isShort_29 (by decide) ?_
      refine v_iald 30 C (hB 2 _ rfl) dX5_isShort_30 hf (fun v1 hf => ?_)
      refine v_aload_n 31 C dX5_isShort_31 rfl rfl ?_
      refine v_getR 32 C lk_X5_9 (hB 0 _ rfl) (by decide) rfl dX5_isShort_32 ?_
      refine v_iconst (v := 0) 35 C dX5_isShort_35 (by decide) ?_
      refine v_iald 36 C (hB 1 _ rfl) dX5_isShort_36 hf (fun v2 hf => ?_)
      refine v_icmp_ge (tgt := 44) 37 C dX5_isShort_37 (by decide) hf (fun hf => ?_) (fun hf => ?_)
      · refine v_iconst (v := 0) 44 C dX5_isShort_44 (by decide) ?_
        exact v_zretN 45 C rfl dX5_isShort_45 (by decide) hf
      · refine v_iconst (v := 1) 40 C dX5_isShort_40 (by decide) ?_
        refine v_goto (tgt := 45) 41 C dX5_isShort_41 (by decide) ?_
        exact v_zretN 45 C rfl dX5_isShort_45 (by decide) hf
    · refine v_aload_n 8 C dX5_isShort_8 rfl rfl ?_
      refine v_getR 9 C lk_X5_15 (hB 0 _ rfl) (by decide) rfl dX5_isShort_9 ?_
      refine v_iload_n 12 C dX5_isShort_12 rfl rfl ?_
      refine v_iald 13 C (hB 2 _ rfl) dX5_isShort_13 hf (fun v3 hf => ?_)
      refine v_if_eq (tgt := 19) 14 C dX5_isShort_14 (by decide) hf (fun hf => ?_) (fun hf => ?_)
      · refine v_iinc (v := x1 + 1) (lv' := [(0, .ref (E.2.1 (k))), (1, .int (x1 + 1))]) 19 C dX5_isShort_19 rfl (by rfl) (by decide) rfl rfl ?_
        refine v_goto (tgt := 2) 22 C dX5_isShort_22 (by decide) ?_
        exact Vx.lv [0, 1] rfl (ih (x1 + 1) σ hf)
      · refine v_iconst (v := 1) 17 C dX5_isShort_17 (by decide) ?_
        exact v_zretN 18 C rfl dX5_isShort_18 (by decide) hf
def f_X5_isShort (k : Nat) (σ : Sg) : Rs := f_X5_isShort_b2 k fu 1 σ
set_option maxRecDepth 100000 in
set_option maxHeartbeats 4000000 in
theorem k_X5_isShort_b0 {q : Mc} {E : En} {L : List Nat} {o : Int32 × Sg} (C : Cx q E L cX5_isShort 2 RX5 (some .boolean) (1)) (k : Nat) (hB : Bk L sh_Pile k) (σ : Sg) (hf : f_X5_isShort k σ = some o) : Vx q E L 2 (some .boolean) o 0 [(0, .ref (E.2.1 (k)))] [] σ := by
  unfold f_X5_isShort at hf
  refine v_iconst (v := 1) 0 C dX5_isShort_0 (by decide) ?_
  refine v_istore_n (lv' := [(0, .ref (E.2.1 (k))), (1, .int 1)]) 1 C dX5_isShort_1 rfl (by decide) rfl rfl ?_
  exact Vx.lv [0, 1] rfl (k_X5_isShort_b2 C k hB fu 1 σ hf)
theorem m_X5_isShort {l : Launch} {E : En} {L : List Nat} (k : Nat) (hB : Bk L sh_Pile k) (σ : Sg) (o : Int32 × Sg) (hf : f_X5_isShort k σ = some o) : Mi l yX5_isShort cX5_isShort 2 (some .boolean) (1) E L [.ref (E.2.1 (k))] σ o :=
  Mi.of RX5 rfl (by decide) (Nat.le_of_ble_eq_true rfl) (fun q hq C => by subst hq; exact k_X5_isShort_b0 C k hB  σ hf)
def f_X5_isAsHere_b2 (k : Nat)  : Nat → Int32 → Sg → Rs
  | 0, _, _ => none
  | n + 1, x1, σ => if 9 < x1 then (some (1, σ)) else (p_rd σ (k + 3) 10 x1 (fun v1 => p_rd σ (k + 2) 10 x1 (fun v2 => if v1 = v2 then (f_X5_isAsHere_b2 k n (x1 + 1) σ) else (some (0, σ)))))
set_option maxRecDepth 100000 in
set_option maxHeartbeats 4000000 in
theorem k_X5_isAsHere_b2 {q : Mc} {E : En} {L : List Nat} {o : Int32 × Sg} (C : Cx q E L cX5_isAsHere 2 RX5 (some .boolean) (1)) (k : Nat) (hB : Bk L sh_Pile k) (n : Nat) : ∀ (x1 : Int32) (σ : Sg), f_X5_isAsHere_b2 k n x1 σ = some o → Vx q E L 2 (some .boolean) o 2 [(0, .ref (E.2.1 (k))), (1, .int x1)] [] σ := by
  induction n with
  | zero => intro x1 σ hf; cases (show (none : Rs) = some o from hf)
  | succ n ih =>
    intro x1 σ hf
    rw [f_X5_isAsHere_b2] at hf
    refine v_iload_n 2 C dX5_isAsHere_2 rfl rfl ?_
    refine v_bipush (v := 9) 3 C dX5_isAsHere_3 (by decide) ?_
    refine v_icmp_gt (tgt := 31) 5 C dX5_isAsHere_5 (by decide) hf (fun hf => ?_) (fun hf => ?_)
    · refine v_iconst (v := 1) 31 C dX5_isAsHere_31 (by decide) ?_
      exact v_zretN 32 C rfl dX5_isAsHere_32 (by decide) hf
    · refine v_aload_n 8 C dX5_isAsHere_8 rfl rfl ?_
      refine v_getR 9 C lk_X5_18 (hB 0 _ rfl) (by decide) rfl dX5_isAsHere_9 ?_
      refine v_iload_n 12 C dX5_isAsHere_12 rfl rfl ?_
      refine v_iald 13 C (hB 3 _ rfl) dX5_isAsHere_13 hf (fun v1 hf => ?_)
      refine v_aload_n 14 C dX5_isAsHere_14 rfl rfl ?_
      refine v_getR 15 C lk_X5_15 (hB 0 _ rfl) (by decide) rfl dX5_isAsHere_15 ?_
      refine v_iload_n 18 C dX5_isAsHere_18 rfl rfl ?_
      refine v_iald 19 C (hB 2 _ rfl) dX5_isAsHere_19 hf (fun v2 hf => ?_)
      refine v_icmp_eq (tgt := 25) 20 C dX5_isAsHere_20 (by decide) hf (fun hf => ?_) (fun hf => ?_)
      · refine v_iinc (v := x1 + 1) (lv' := [(0, .ref (E.2.1 (k))), (1, .int (x1 + 1))]) 25 C dX5_isAsHere_25 rfl (by rfl) (by decide) rfl rfl ?_
        refine v_goto (tgt := 2) 28 C dX5_isAsHere_28 (by decide) ?_
        exact Vx.lv [0, 1] rfl (ih (x1 + 1) σ hf)
      · refine v_iconst (v := 0) 23 C dX5_isAsHere_23 (by decide) ?_
        exact v_zretN 24 C rfl dX5_isAsHere_24 (by decide) hf
def f_X5_isAsHere (k : Nat) (σ : Sg) : Rs := f_X5_isAsHere_b2 k fu 0 σ
set_option maxRecDepth 100000 in
set_option maxHeartbeats 4000000 in
theorem k_X5_isAsHere_b0 {q : Mc} {E : En} {L : List Nat} {o : Int32 × Sg} (C : Cx q E L cX5_isAsHere 2 RX5 (some .boolean) (1)) (k : Nat) (hB : Bk L sh_Pile k) (σ : Sg) (hf : f_X5_isAsHere k σ = some o) : Vx q E L 2 (some .boolean) o 0 [(0, .ref (E.2.1 (k)))] [] σ := by
  unfold f_X5_isAsHere at hf
  refine v_iconst (v := 0) 0 C dX5_isAsHere_0 (by decide) ?_
  refine v_istore_n (lv' := [(0, .ref (E.2.1 (k))), (1, .int 0)]) 1 C dX5_isAsHere_1 rfl (by decide) rfl rfl ?_
  exact Vx.lv [0, 1] rfl (k_X5_isAsHere_b2 C k hB fu 0 σ hf)
theorem m_X5_isAsHere {l : Launch} {E : En} {L : List Nat} (k : Nat) (hB : Bk L sh_Pile k) (σ : Sg) (o : Int32 × Sg) (hf : f_X5_isAsHere k σ = some o) : Mi l yX5_isAsHere cX5_isAsHere 2 (some .boolean) (1) E L [.ref (E.2.1 (k))] σ o :=
  Mi.of RX5 rfl (by decide) (Nat.le_of_ble_eq_true rfl) (fun q hq C => by subst hq; exact k_X5_isAsHere_b0 C k hB  σ hf)
def f_X5_suspects_b53 (k k1 : Nat) (r4 : Int32 → Int32 → Sg → Rs) (x2 : Int32) (x3 : Int32) (σ : Sg) : Rs := r4 x2 (x3 + 1) σ
set_option maxRecDepth 100000 in
set_option maxHeartbeats 4000000 in
theorem k_X5_suspects_b53 {q : Mc} {E : En} {L : List Nat} {o : Int32 × Sg} (C : Cx q E L cX5_suspects 4 RX5 (some .int) (3)) (k k1 : Nat) (hB : Bk L sh_Pile k) (hB1 : Bk L sh_Cut k1) (r4 : Int32 → Int32 → Sg → Rs) (hr4 : ∀ (x2 : Int32) (x3 : Int32) (σ : Sg), r4 x2 x3 σ = some o → Vx q E L 4 (some .int) o 4 [(0, .ref (E.2.1 (k))), (1, .ref (E.2.1 (k1))), (2, .int x2), (3, .int x3)] [] σ) (x2 : Int32) (x3 : Int32) (σ : Sg) (hf : f_X5_suspects_b53 k k1 r4 x2 x3 σ = some o) : Vx q E L 4 (some .int) o 53 [(0, .ref (E.2.1 (k))), (1, .ref (E.2.1 (k1))), (2, .int x2), (3, .int x3)] [] σ := by
  unfold f_X5_suspects_b53 at hf
  refine v_iinc (v := x3 + 1) (lv' := [(0, .ref (E.2.1 (k))), (1, .ref (E.2.1 (k1))), (2, .int x2), (3, .int (x3 + 1))]) 53 C dX5_suspects_53 rfl (by rfl) (by decide) rfl rfl ?_
  refine v_goto (tgt := 4) 56 C dX5_suspects_56 (by decide) ?_
  exact Vx.lv [0, 1, 2, 3] rfl (hr4 x2 (x3 + 1) σ hf)
def f_X5_suspects_b4 (k k1 : Nat)  : Nat → Int32 → Int32 → Sg → Rs
  | 0, _, _, _ => none
  | n + 1, x2, x3, σ => if (σ (k1) 2) ≤ x3 then (some (x2, σ)) else (p_cpy σ (k + 1) 10 (k + 3) 10 0 0 10 (fun s1 => p_call (f_X5_add (k + 3) 10 k1 x3 (-1) s1) (fun v2 s3 => p_call (f_X5_isAsHere k s3) (fun v4 s5 => if v4 = 0 then (f_X5_suspects_b53 k k1 (f_X5_suspects_b4 k k1 n) x2 x3 s5) else (f_X5_suspects_b53 k k1 (f_X5_suspects_b4 k k1 n) (x2 ||| (1 <<< (x3 &&& 31))) x3 s5)))))
set_option maxRecDepth 100000 in
set_option maxHeartbeats 4000000 in
theorem k_X5_suspects_b4 {q : Mc} {E : En} {L : List Nat} {o : Int32 × Sg} (C : Cx q E L cX5_suspects 4 RX5 (some .int) (3)) (k k1 : Nat) (hB : Bk L sh_Pile k) (hB1 : Bk L sh_Cut k1) (n : Nat) : ∀ (x2 : Int32) (x3 : Int32) (σ : Sg), f_X5_suspects_b4 k k1 n x2 x3 σ = some o → Vx q E L 4 (some .int) o 4 [(0, .ref (E.2.1 (k))), (1, .ref (E.2.1 (k1))), (2, .int x2), (3, .int x3)] [] σ := by
  induction n with
  | zero => intro x2 x3 σ hf; cases (show (none : Rs) = some o from hf)
  | succ n ih =>
    intro x2 x3 σ hf
    rw [f_X5_suspects_b4] at hf
    refine v_iload_n 4 C dX5_suspects_4 rfl rfl ?_
    refine v_aload_n 5 C dX5_suspects_5 rfl rfl ?_
    refine v_getI (dum := 0) 6 C lk_X5_31 (hB1 0 _ rfl) (by decide) rfl dX5_suspects_6 ?_
    refine v_icmp_ge (tgt := 59) 9 C dX5_suspects_9 (by decide) hf (fun hf => ?_) (fun hf => ?_)
    · refine v_iload_n 59 C dX5_suspects_59 rfl rfl ?_
      exact v_iret 60 C rfl dX5_suspects_60 hf
    · refine v_aload_n 12 C dX5_suspects_12 rfl rfl ?_
      refine v_getR 13 C lk_X5_9 (hB 0 _ rfl) (by decide) rfl dX5_suspects_13 ?_
      refine v_iconst (v := 0) 16 C dX5_suspects_16 (by decide) ?_
      refine v_aload_n 17 C dX5_suspects_17 rfl rfl ?_
      refine v_getR 18 C lk_X5_18 (hB 0 _ rfl) (by decide) rfl dX5_suspects_18 ?_
      refine v_iconst (v := 0) 21 C dX5_suspects_21 (by decide) ?_
      refine v_aload_n 22 C dX5_suspects_22 rfl rfl ?_
      refine v_getR 23 C lk_X5_9 (hB 0 _ rfl) (by decide) rfl dX5_suspects_23 ?_
      refine v_alen (v := 10) 26 C (hB 1 _ rfl) (Or.inl rfl) rfl dX5_suspects_26 ?_
      refine v_copyi 27 C lmc_X5_51 lcp (by decide) (Nat.le_of_ble_eq_true rfl) (hB 1 _ rfl) (hB 3 _ rfl) dX5_suspects_27 hf (fun s1 hf => ?_)
      refine v_aload_n 30 C dX5_suspects_30 rfl rfl ?_
      refine v_getR 31 C lk_X5_18 (hB 0 _ rfl) (by decide) rfl dX5_suspects_31 ?_
      refine v_aload_n 34 C dX5_suspects_34 rfl rfl ?_
      refine v_iload_n 35 C dX5_suspects_35 rfl rfl ?_
      refine v_iconst (v := (-1)) 36 C dX5_suspects_36 (by decide) ?_
      refine v_callS (st := []) 37 C [.ref (E.2.1 (k + 3)), .ref (E.2.1 (k1)), .int x3, .int (-1)] lm_X5_37 lz_X5_add dX5_suspects_37 rfl (by decide) rfl (Nat.le_of_ble_eq_true rfl) (fun o1 h1 => m_X5_add (k + 3) 10 k1 (hB 3 _ rfl) hB1 x3 (-1) s1 o1 h1) hf (fun v2 s3 hf => ?_)
      refine v_aload_n 40 C dX5_suspects_40 rfl rfl ?_
      refine v_callV (st := []) 41 C [] lm_X5_57 ly_X5_isAsHere (hB 0 _ rfl) (by decide) dX5_suspects_41 rfl (by decide) rfl (Nat.le_of_ble_eq_true rfl) (fun o1 h1 => m_X5_isAsHere k hB  s3 o1 h1) hf (fun v4 s5 hf => ?_)
      refine v_if_eq (tgt := 53) 44 C dX5_suspects_44 (by decide) hf (fun hf => ?_) (fun hf => ?_)
      · exact Vx.lv [0, 1, 2, 3] rfl (k_X5_suspects_b53 C k k1 hB hB1 (f_X5_suspects_b4 k k1 n) ih x2 x3 s5 hf)
      · refine v_iload_n 47 C dX5_suspects_47 rfl rfl ?_
        refine v_iconst (v := 1) 48 C dX5_suspects_48 (by decide) ?_
        refine v_iload_n 49 C dX5_suspects_49 rfl rfl ?_
        refine v_ishl 50 C dX5_suspects_50 ?_
        refine v_ior 51 C dX5_suspects_51 ?_
        refine v_istore_n (lv' := [(0, .ref (E.2.1 (k))), (1, .ref (E.2.1 (k1))), (2, .int (x2 ||| (1 <<< (x3 &&& 31)))), (3, .int x3)]) 52 C dX5_suspects_52 rfl (by decide) rfl rfl ?_
        exact Vx.lv [0, 1, 2, 3] rfl (k_X5_suspects_b53 C k k1 hB hB1 (f_X5_suspects_b4 k k1 n) ih (x2 ||| (1 <<< (x3 &&& 31))) x3 s5 hf)
def f_X5_suspects (k k1 : Nat) (σ : Sg) : Rs := f_X5_suspects_b4 k k1 fu 0 0 σ
set_option maxRecDepth 100000 in
set_option maxHeartbeats 4000000 in
theorem k_X5_suspects_b0 {q : Mc} {E : En} {L : List Nat} {o : Int32 × Sg} (C : Cx q E L cX5_suspects 4 RX5 (some .int) (3)) (k k1 : Nat) (hB : Bk L sh_Pile k) (hB1 : Bk L sh_Cut k1) (σ : Sg) (hf : f_X5_suspects k k1 σ = some o) : Vx q E L 4 (some .int) o 0 [(0, .ref (E.2.1 (k))), (1, .ref (E.2.1 (k1)))] [] σ := by
  unfold f_X5_suspects at hf
  refine v_iconst (v := 0) 0 C dX5_suspects_0 (by decide) ?_
  refine v_istore_n (lv' := [(0, .ref (E.2.1 (k))), (1, .ref (E.2.1 (k1))), (2, .int 0)]) 1 C dX5_suspects_1 rfl (by decide) rfl rfl ?_
  refine v_iconst (v := 0) 2 C dX5_suspects_2 (by decide) ?_
  refine v_istore_n (lv' := [(0, .ref (E.2.1 (k))), (1, .ref (E.2.1 (k1))), (2, .int 0), (3, .int 0)]) 3 C dX5_suspects_3 rfl (by decide) rfl rfl ?_
  exact Vx.lv [0, 1, 2, 3] rfl (k_X5_suspects_b4 C k k1 hB hB1 fu 0 0 σ hf)
theorem m_X5_suspects {l : Launch} {E : En} {L : List Nat} (k k1 : Nat) (hB : Bk L sh_Pile k) (hB1 : Bk L sh_Cut k1) (σ : Sg) (o : Int32 × Sg) (hf : f_X5_suspects k k1 σ = some o) : Mi l yX5_suspects cX5_suspects 4 (some .int) (3) E L [.ref (E.2.1 (k)), .ref (E.2.1 (k1))] σ o :=
  Mi.of RX5 rfl (by decide) (Nat.le_of_ble_eq_true rfl) (fun q hq C => by subst hq; exact k_X5_suspects_b0 C k k1 hB hB1  σ hf)
def f_X5_seemingSides_b88 (k0 : Nat) (r5 : Int32 → Int32 → Int32 → Int32 → Sg → Rs) (x1 : Int32) (x2 : Int32) (x3 : Int32) (x4 : Int32) (σ : Sg) : Rs := r5 x1 x2 x3 (x4 + 1) σ
set_option maxRecDepth 100000 in
set_option maxHeartbeats 4000000 in
theorem k_X5_seemingSides_b88 {q : Mc} {E : En} {L : List Nat} {o : Int32 × Sg} (C : Cx q E L cX5_seemingSides 8 RX5 (some .int) (2)) (k0 : Nat) (hB0 : Bk L sh_Cut k0) (r5 : Int32 → Int32 → Int32 → Int32 → Sg → Rs) (hr5 : ∀ (x1 : Int32) (x2 : Int32) (x3 : Int32) (x4 : Int32) (σ : Sg), r5 x1 x2 x3 x4 σ = some o → Vx q E L 8 (some .int) o 5 [(0, .ref (E.2.1 (k0))), (1, .int x1), (2, .int x2), (3, .int x3), (4, .int x4)] [] σ) (x1 : Int32) (x2 : Int32) (x3 : Int32) (x4 : Int32) (σ : Sg) (hf : f_X5_seemingSides_b88 k0 r5 x1 x2 x3 x4 σ = some o) : Vx q E L 8 (some .int) o 88 [(0, .ref (E.2.1 (k0))), (1, .int x1), (2, .int x2), (3, .int x3), (4, .int x4)] [] σ := by
  unfold f_X5_seemingSides_b88 at hf
  refine v_iinc (v := x4 + 1) (lv' := [(0, .ref (E.2.1 (k0))), (1, .int x1), (2, .int x2), (3, .int x3), (4, .int (x4 + 1))]) 88 C dX5_seemingSides_88 rfl (by rfl) (by decide) rfl rfl ?_
  refine v_goto (tgt := 5) 91 C dX5_seemingSides_91 (by decide) ?_
  exact Vx.lv [0, 1, 2, 3, 4] rfl (hr5 x1 x2 x3 (x4 + 1) σ hf)
def f_X5_seemingSides_b82 (k0 : Nat) (r5 : Int32 → Int32 → Int32 → Int32 → Sg → Rs) (r47 : Int32 → Int32 → Int32 → Int32 → Int32 → Int32 → Int32 → Sg → Rs) (x1 : Int32) (x2 : Int32) (x3 : Int32) (x4 : Int32) (x5 : Int32) (x6 : Int32) (x7 : Int32) (σ : Sg) : Rs := r47 x1 x2 x3 x4 x5 x6 (x7 + 1) σ
set_option maxRecDepth 100000 in
set_option maxHeartbeats 4000000 in
theorem k_X5_seemingSides_b82 {q : Mc} {E : En} {L : List Nat} {o : Int32 × Sg} (C : Cx q E L cX5_seemingSides 8 RX5 (some .int) (2)) (k0 : Nat) (hB0 : Bk L sh_Cut k0) (r5 : Int32 → Int32 → Int32 → Int32 → Sg → Rs) (hr5 : ∀ (x1 : Int32) (x2 : Int32) (x3 : Int32) (x4 : Int32) (σ : Sg), r5 x1 x2 x3 x4 σ = some o → Vx q E L 8 (some .int) o 5 [(0, .ref (E.2.1 (k0))), (1, .int x1), (2, .int x2), (3, .int x3), (4, .int x4)] [] σ) (r47 : Int32 → Int32 → Int32 → Int32 → Int32 → Int32 → Int32 → Sg → Rs) (hr47 : ∀ (x1 : Int32) (x2 : Int32) (x3 : Int32) (x4 : Int32) (x5 : Int32) (x6 : Int32) (x7 : Int32) (σ : Sg), r47 x1 x2 x3 x4 x5 x6 x7 σ = some o → Vx q E L 8 (some .int) o 47 [(0, .ref (E.2.1 (k0))), (1, .int x1), (2, .int x2), (3, .int x3), (4, .int x4), (5, .int x5), (6, .int x6), (7, .int x7)] [] σ) (x1 : Int32) (x2 : Int32) (x3 : Int32) (x4 : Int32) (x5 : Int32) (x6 : Int32) (x7 : Int32) (σ : Sg) (hf : f_X5_seemingSides_b82 k0 r5 r47 x1 x2 x3 x4 x5 x6 x7 σ = some o) : Vx q E L 8 (some .int) o 82 [(0, .ref (E.2.1 (k0))), (1, .int x1), (2, .int x2), (3, .int x3), (4, .int x4), (5, .int x5), (6, .int x6), (7, .int x7)] [] σ := by
  unfold f_X5_seemingSides_b82 at hf
  refine v_iinc (v := x7 + 1) (lv' := [(0, .ref (E.2.1 (k0))), (1, .int x1), (2, .int x2), (3, .int x3), (4, .int x4), (5, .int x5), (6, .int x6), (7, .int (x7 + 1))]) 82 C dX5_seemingSides_82 rfl (by rfl) (by decide) rfl rfl ?_
  refine v_goto (tgt := 47) 85 C dX5_seemingSides_85 (by decide) ?_
  exact Vx.lv [0, 1, 2, 3, 4, 5, 6, 7] rfl (hr47 x1 x2 x3 x4 x5 x6 (x7 + 1) σ hf)
def f_X5_seemingSides_b47 (k0 : Nat) (r5 : Int32 → Int32 → Int32 → Int32 → Sg → Rs) : Nat → Int32 → Int32 → Int32 → Int32 → Int32 → Int32 → Int32 → Sg → Rs
  | 0, _, _, _, _, _, _, _, _ => none
  | n + 1, x1, x2, x3, x4, x5, x6, x7, σ => if x5 = 0 then (f_X5_seemingSides_b88 k0 r5 x1 x2 x3 x4 σ) else (if 4 ≤ x7 then (f_X5_seemingSides_b88 k0 r5 x1 x2 x3 x4 σ) else (if x7 = x6 then (f_X5_seemingSides_b82 k0 r5 (f_X5_seemingSides_b47 k0 r5 n) x1 x2 x3 x4 x5 x6 x7 σ) else (p_call (f_X1_sideOf k0 x2 0 x7 σ) (fun v1 s2 => if (x5 + v1) = 0 then (f_X5_seemingSides_b82 k0 r5 (f_X5_seemingSides_b47 k0 r5 n) x1 x2 (x3 + 1) x4 x5 x6 x7 s2) else (f_X5_seemingSides_b82 k0 r5 (f_X5_seemingSides_b47 k0 r5 n) x1 x2 x3 x4 x5 x6 x7 s2)))))
set_option maxRecDepth 100000 in
set_option maxHeartbeats 4000000 in
theorem k_X5_seemingSides_b47 {q : Mc} {E : En} {L : List Nat} {o : Int32 × Sg} (C : Cx q E L cX5_seemingSides 8 RX5 (some .int) (2)) (k0 : Nat) (hB0 : Bk L sh_Cut k0) (r5 : Int32 → Int32 → Int32 → Int32 → Sg → Rs) (hr5 : ∀ (x1 : Int32) (x2 : Int32) (x3 : Int32) (x4 : Int32) (σ : Sg), r5 x1 x2 x3 x4 σ = some o → Vx q E L 8 (some .int) o 5 [(0, .ref (E.2.1 (k0))), (1, .int x1), (2, .int x2), (3, .int x3), (4, .int x4)] [] σ) (n : Nat) : ∀ (x1 : Int32) (x2 : Int32) (x3 : Int32) (x4 : Int32) (x5 : Int32) (x6 : Int32) (x7 : Int32) (σ : Sg), f_X5_seemingSides_b47 k0 r5 n x1 x2 x3 x4 x5 x6 x7 σ = some o → Vx q E L 8 (some .int) o 47 [(0, .ref (E.2.1 (k0))), (1, .int x1), (2, .int x2), (3, .int x3), (4, .int x4), (5, .int x5), (6, .int x6), (7, .int x7)] [] σ := by
  induction n with
  | zero => intro x1 x2 x3 x4 x5 x6 x7 σ hf; cases (show (none : Rs) = some o from hf)
  | succ n ih =>
    intro x1 x2 x3 x4 x5 x6 x7 σ hf
    rw [f_X5_seemingSides_b47] at hf
    refine v_iload 47 C dX5_seemingSides_47 rfl ?_
    refine v_if_eq (tgt := 88) 49 C dX5_seemingSides_49 (by decide) hf (fun hf => ?_) (fun hf => ?_)
    · exact Vx.lv [0, 1, 2, 3, 4] rfl (k_X5_seemingSides_b88 C k0 hB0 r5 hr5 x1 x2 x3 x4 σ hf)
    · refine v_iload 52 C dX5_seemingSides_52 rfl ?_
      refine v_iconst (v := 4) 54 C dX5_seemingSides_54 (by decide) ?_
      refine v_icmp_ge (tgt := 88) 55 C dX5_seemingSides_55 (by decide) hf (fun hf => ?_) (fun hf => ?_)
      · exact Vx.lv [0, 1, 2, 3, 4] rfl (k_X5_seemingSides_b88 C k0 hB0 r5 hr5 x1 x2 x3 x4 σ hf)
      · refine v_iload 58 C dX5_seemingSides_58 rfl ?_
        refine v_iload 60 C dX5_seemingSides_60 rfl ?_
        refine v_icmp_eq (tgt := 82) 62 C dX5_seemingSides_62 (by decide) hf (fun hf => ?_) (fun hf => ?_)
        · exact Vx.lv [0, 1, 2, 3, 4, 5, 6, 7] rfl (k_X5_seemingSides_b82 C k0 hB0 r5 hr5 (f_X5_seemingSides_b47 k0 r5 n) ih x1 x2 x3 x4 x5 x6 x7 σ hf)
        · refine v_iload 65 C dX5_seemingSides_65 rfl ?_
          refine v_aload_n 67 C dX5_seemingSides_67 rfl rfl ?_
          refine v_iload_n 68 C dX5_seemingSides_68 rfl rfl ?_
          refine v_iconst (v := 0) 69 C dX5_seemingSides_69 (by decide) ?_
          refine v_iload 70 C dX5_seemingSides_70 rfl ?_
          refine v_callV (st := [.int x5]) 72 C [.int x2, .int 0, .int x7] lm_X5_61 ly_X1_sideOf (hB0 0 _ rfl) (by decide) dX5_seemingSides_72 rfl (by decide) rfl (Nat.le_of_ble_eq_true rfl) (fun o1 h1 => m_X1_sideOf k0 hB0 x2 0 x7 σ o1 h1) hf (fun v1 s2 hf => ?_)
          refine v_iadd 75 C dX5_seemingSides_75 ?_
          refine v_if_ne (tgt := 82) 76 C dX5_seemingSides_76 (by decide) hf (fun hf => ?_) (fun hf => ?_)
          · exact Vx.lv [0, 1, 2, 3, 4, 5, 6, 7] rfl (k_X5_seemingSides_b82 C k0 hB0 r5 hr5 (f_X5_seemingSides_b47 k0 r5 n) ih x1 x2 x3 x4 x5 x6 x7 s2 hf)
          · refine v_iinc (v := x3 + 1) (lv' := [(0, .ref (E.2.1 (k0))), (1, .int x1), (2, .int x2), (3, .int (x3 + 1)), (4, .int x4), (5, .int x5), (6, .int x6), (7, .int x7)]) 79 C dX5_seemingSides_79 rfl (by rfl) (by decide) rfl rfl ?_
            exact Vx.lv [0, 1, 2, 3, 4, 5, 6, 7] rfl (k_X5_seemingSides_b82 C k0 hB0 r5 hr5 (f_X5_seemingSides_b47 k0 r5 n) ih x1 x2 (x3 + 1) x4 x5 x6 x7 s2 hf)
def f_X5_seemingSides_b42 (k0 : Nat) (r5 : Int32 → Int32 → Int32 → Int32 → Sg → Rs) (x1 : Int32) (x2 : Int32) (x3 : Int32) (x4 : Int32) (x5 : Int32) (t0 : Int32) (σ : Sg) : Rs := f_X5_seemingSides_b47 k0 r5 fu x1 x2 x3 x4 x5 t0 0 σ
set_option maxRecDepth 100000 in
set_option maxHeartbeats 4000000 in
theorem k_X5_seemingSides_b42 {q : Mc} {E : En} {L : List Nat} {o : Int32 × Sg} (C : Cx q E L cX5_seemingSides 8 RX5 (some .int) (2)) (k0 : Nat) (hB0 : Bk L sh_Cut k0) (r5 : Int32 → Int32 → Int32 → Int32 → Sg → Rs) (hr5 : ∀ (x1 : Int32) (x2 : Int32) (x3 : Int32) (x4 : Int32) (σ : Sg), r5 x1 x2 x3 x4 σ = some o → Vx q E L 8 (some .int) o 5 [(0, .ref (E.2.1 (k0))), (1, .int x1), (2, .int x2), (3, .int x3), (4, .int x4)] [] σ) (x1 : Int32) (x2 : Int32) (x3 : Int32) (x4 : Int32) (x5 : Int32) (t0 : Int32) (σ : Sg) (hf : f_X5_seemingSides_b42 k0 r5 x1 x2 x3 x4 x5 t0 σ = some o) : Vx q E L 8 (some .int) o 42 [(0, .ref (E.2.1 (k0))), (1, .int x1), (2, .int x2), (3, .int x3), (4, .int x4), (5, .int x5)] [.int t0] σ := by
  unfold f_X5_seemingSides_b42 at hf
  refine v_istore (lv' := [(0, .ref (E.2.1 (k0))), (1, .int x1), (2, .int x2), (3, .int x3), (4, .int x4), (5, .int x5), (6, .int t0)]) 42 C dX5_seemingSides_42 (by decide) rfl rfl ?_
  refine v_iconst (v := 0) 44 C dX5_seemingSides_44 (by decide) ?_
  refine v_istore (lv' := [(0, .ref (E.2.1 (k0))), (1, .int x1), (2, .int x2), (3, .int x3), (4, .int x4), (5, .int x5), (6, .int t0), (7, .int 0)]) 45 C dX5_seemingSides_45 (by decide) rfl rfl ?_
  exact Vx.lv [0, 1, 2, 3, 4, 5, 6, 7] rfl (k_X5_seemingSides_b47 C k0 hB0 r5 hr5 fu x1 x2 x3 x4 x5 t0 0 σ hf)
def f_X5_seemingSides_b5 (k0 : Nat)  : Nat → Int32 → Int32 → Int32 → Int32 → Sg → Rs
  | 0, _, _, _, _, _ => none
  | n + 1, x1, x2, x3, x4, σ => if 4 ≤ x4 then (some (x3, σ)) else (p_call (f_X1_sideOf k0 x1 0 x4 σ) (fun v1 s2 => p_call (f_X1_beside k0 x1 x4 s2) (fun v3 s4 => if v3 = x2 then (f_X5_seemingSides_b42 k0 (f_X5_seemingSides_b5 k0 n) x1 x2 x3 x4 v1 ((x4 + 2) - (x4 + 2) / 4 * 4) s4) else (f_X5_seemingSides_b42 k0 (f_X5_seemingSides_b5 k0 n) x1 x2 x3 x4 v1 4 s4))))
set_option maxRecDepth 100000 in
set_option maxHeartbeats 4000000 in
theorem k_X5_seemingSides_b5 {q : Mc} {E : En} {L : List Nat} {o : Int32 × Sg} (C : Cx q E L cX5_seemingSides 8 RX5 (some .int) (2)) (k0 : Nat) (hB0 : Bk L sh_Cut k0) (n : Nat) : ∀ (x1 : Int32) (x2 : Int32) (x3 : Int32) (x4 : Int32) (σ : Sg), f_X5_seemingSides_b5 k0 n x1 x2 x3 x4 σ = some o → Vx q E L 8 (some .int) o 5 [(0, .ref (E.2.1 (k0))), (1, .int x1), (2, .int x2), (3, .int x3), (4, .int x4)] [] σ := by
  induction n with
  | zero => intro x1 x2 x3 x4 σ hf; cases (show (none : Rs) = some o from hf)
  | succ n ih =>
    intro x1 x2 x3 x4 σ hf
    rw [f_X5_seemingSides_b5] at hf
    refine v_iload 5 C dX5_seemingSides_5 rfl ?_
    refine v_iconst (v := 4) 7 C dX5_seemingSides_7 (by decide) ?_
    refine v_icmp_ge (tgt := 94) 8 C dX5_seemingSides_8 (by decide) hf (fun hf => ?_) (fun hf => ?_)
    · refine v_iload_n 94 C dX5_seemingSides_94 rfl rfl ?_
      exact v_iret 95 C rfl dX5_seemingSides_95 hf
    · refine v_aload_n 11 C dX5_seemingSides_11 rfl rfl ?_
      refine v_iload_n 12 C dX5_seemingSides_12 rfl rfl ?_
      refine v_iconst (v := 0) 13 C dX5_seemingSides_13 (by decide) ?_
      refine v_iload 14 C dX5_seemingSides_14 rfl ?_
      refine v_callV (st := []) 16 C [.int x1, .int 0, .int x4] lm_X5_61 ly_X1_sideOf (hB0 0 _ rfl) (by decide) dX5_seemingSides_16 rfl (by decide) rfl (Nat.le_of_ble_eq_true rfl) (fun o1 h1 => m_X1_sideOf k0 hB0 x1 0 x4 σ o1 h1) hf (fun v1 s2 hf => ?_)
      refine v_istore (lv' := [(0, .ref (E.2.1 (k0))), (1, .int x1), (2, .int x2), (3, .int x3), (4, .int x4), (5, .int v1)]) 19 C dX5_seemingSides_19 (by decide) rfl rfl ?_
      refine v_aload_n 21 C dX5_seemingSides_21 rfl rfl ?_
      refine v_iload_n 22 C dX5_seemingSides_22 rfl rfl ?_
      refine v_iload 23 C dX5_seemingSides_23 rfl ?_
      refine v_callV (st := []) 25 C [.int x1, .int x4] lm_X5_75 ly_X1_beside (hB0 0 _ rfl) (by decide) dX5_seemingSides_25 rfl (by decide) rfl (Nat.le_of_ble_eq_true rfl) (fun o1 h1 => m_X1_beside k0 hB0 x1 x4 s2 o1 h1) hf (fun v3 s4 hf => ?_)
      refine v_iload_n 28 C dX5_seemingSides_28 rfl rfl ?_
      refine v_icmp_ne (tgt := 41) 29 C dX5_seemingSides_29 (by decide) hf (fun hf => ?_) (fun hf => ?_)
      · refine v_iconst (v := 4) 41 C dX5_seemingSides_41 (by decide) ?_
        exact Vx.lv [0, 1, 2, 3, 4, 5] rfl (k_X5_seemingSides_b42 C k0 hB0 (f_X5_seemingSides_b5 k0 n) ih x1 x2 x3 x4 v1 4 s4 hf)
      · refine v_iload 32 C dX5_seemingSides_32 rfl ?_
        refine v_iconst (v := 2) 34 C dX5_seemingSides_34 (by decide) ?_
        refine v_iadd 35 C dX5_seemingSides_35 ?_
        refine v_iconst (v := 4) 36 C dX5_seemingSides_36 (by decide) ?_
        refine v_irem_c 37 C dX5_seemingSides_37 (by decide) ?_
        refine v_goto (tgt := 42) 38 C dX5_seemingSides_38 (by decide) ?_
        exact Vx.lv [0, 1, 2, 3, 4, 5] rfl (k_X5_seemingSides_b42 C k0 hB0 (f_X5_seemingSides_b5 k0 n) ih x1 x2 x3 x4 v1 ((x4 + 2) - (x4 + 2) / 4 * 4) s4 hf)
def f_X5_seemingSides (k0 : Nat) (x1 : Int32) (x2 : Int32) (σ : Sg) : Rs := f_X5_seemingSides_b5 k0 fu x1 x2 0 0 σ
set_option maxRecDepth 100000 in
set_option maxHeartbeats 4000000 in
theorem k_X5_seemingSides_b0 {q : Mc} {E : En} {L : List Nat} {o : Int32 × Sg} (C : Cx q E L cX5_seemingSides 8 RX5 (some .int) (2)) (k0 : Nat) (hB0 : Bk L sh_Cut k0) (x1 : Int32) (x2 : Int32) (σ : Sg) (hf : f_X5_seemingSides k0 x1 x2 σ = some o) : Vx q E L 8 (some .int) o 0 [(0, .ref (E.2.1 (k0))), (1, .int x1), (2, .int x2)] [] σ := by
  unfold f_X5_seemingSides at hf
  refine v_iconst (v := 0) 0 C dX5_seemingSides_0 (by decide) ?_
  refine v_istore_n (lv' := [(0, .ref (E.2.1 (k0))), (1, .int x1), (2, .int x2), (3, .int 0)]) 1 C dX5_seemingSides_1 rfl (by decide) rfl rfl ?_
  refine v_iconst (v := 0) 2 C dX5_seemingSides_2 (by decide) ?_
  refine v_istore (lv' := [(0, .ref (E.2.1 (k0))), (1, .int x1), (2, .int x2), (3, .int 0), (4, .int 0)]) 3 C dX5_seemingSides_3 (by decide) rfl rfl ?_
  exact Vx.lv [0, 1, 2, 3, 4] rfl (k_X5_seemingSides_b5 C k0 hB0 fu x1 x2 0 0 σ hf)
theorem m_X5_seemingSides {l : Launch} {E : En} {L : List Nat} (k0 : Nat) (hB0 : Bk L sh_Cut k0) (x1 : Int32) (x2 : Int32) (σ : Sg) (o : Int32 × Sg) (hf : f_X5_seemingSides k0 x1 x2 σ = some o) : Mi l yX5_seemingSides cX5_seemingSides 8 (some .int) (2) E L [.ref (E.2.1 (k0)), .int x1, .int x2] σ o :=
  Mi.of RX5 rfl (by decide) (Nat.le_of_ble_eq_true rfl) (fun q hq C => by subst hq; exact k_X5_seemingSides_b0 C k0 hB0 x1 x2 σ hf)
def f_X5_seemingPairs_b60 (k k1 k2 : Nat) (r5 : Int32 → Int32 → Sg → Rs) (r20 : Int32 → Int32 → Int32 → Sg → Rs) (x3 : Int32) (x4 : Int32) (x5 : Int32) (σ : Sg) : Rs := r20 x3 x4 (x5 + 1) σ
set_option maxRecDepth 100000 in
set_option maxHeartbeats 4000000 in
theorem k_X5_seemingPairs_b60 {q : Mc} {E : En} {L : List Nat} {o : Int32 × Sg} (C : Cx q E L cX5_seemingPairs 6 RX5 (some .int) (3)) (k k1 k2 : Nat) (hB : Bk L sh_Pile k) (hB1 : Bk L sh_Cut k1) (hB2 : Bk L sh_Board k2) (r5 : Int32 → Int32 → Sg → Rs) (hr5 : ∀ (x3 : Int32) (x4 : Int32) (σ : Sg), r5 x3 x4 σ = some o → Vx q E L 6 (some .int) o 5 [(1, .ref (E.2.1 (k1))), (2, .ref (E.2.1 (k2))), (3, .int x3), (4, .int x4)] [] σ) (r20 : Int32 → Int32 → Int32 → Sg → Rs) (hr20 : ∀ (x3 : Int32) (x4 : Int32) (x5 : Int32) (σ : Sg), r20 x3 x4 x5 σ = some o → Vx q E L 6 (some .int) o 20 [(1, .ref (E.2.1 (k1))), (2, .ref (E.2.1 (k2))), (3, .int x3), (4, .int x4), (5, .int x5)] [] σ) (x3 : Int32) (x4 : Int32) (x5 : Int32) (σ : Sg) (hf : f_X5_seemingPairs_b60 k k1 k2 r5 r20 x3 x4 x5 σ = some o) : Vx q E L 6 (some .int) o 60 [(1, .ref (E.2.1 (k1))), (2, .ref (E.2.1 (k2))), (3, .int x3), (4, .int x4), (5, .int x5)] [] σ := by
  unfold f_X5_seemingPairs_b60 at hf
  refine v_iinc (v := x5 + 1) (lv' := [(1, .ref (E.2.1 (k1))), (2, .ref (E.2.1 (k2))), (3, .int x3), (4, .int x4), (5, .int (x5 + 1))]) 60 C dX5_seemingPairs_60 rfl (by rfl) (by decide) rfl rfl ?_
  refine v_goto (tgt := 20) 63 C dX5_seemingPairs_63 (by decide) ?_
  exact Vx.lv [0, 1, 2, 3, 4] rfl (hr20 x3 x4 (x5 + 1) σ hf)
def f_X5_seemingPairs_b20 (k k1 k2 : Nat) (r5 : Int32 → Int32 → Sg → Rs) : Nat → Int32 → Int32 → Int32 → Sg → Rs
  | 0, _, _, _, _ => none
  | n + 1, x3, x4, x5, σ => if (σ (k1) 2) ≤ x5 then (r5 x3 (x4 + 1) σ) else (p_rd σ (k2 + 5) 16 x4 (fun v1 => if v1 = 0 then (p_rd σ (k2 + 5) 16 x5 (fun v2 => if v2 = 0 then (p_call (f_X5_seemingSides k1 x4 x5 σ) (fun v3 s4 => f_X5_seemingPairs_b60 k k1 k2 r5 (f_X5_seemingPairs_b20 k k1 k2 r5 n) (x3 + v3) x4 x5 s4)) else (f_X5_seemingPairs_b60 k k1 k2 r5 (f_X5_seemingPairs_b20 k k1 k2 r5 n) x3 x4 x5 σ))) else (f_X5_seemingPairs_b60 k k1 k2 r5 (f_X5_seemingPairs_b20 k k1 k2 r5 n) x3 x4 x5 σ)))
set_option maxRecDepth 100000 in
set_option maxHeartbeats 4000000 in
theorem k_X5_seemingPairs_b20 {q : Mc} {E : En} {L : List Nat} {o : Int32 × Sg} (C : Cx q E L cX5_seemingPairs 6 RX5 (some .int) (3)) (k k1 k2 : Nat) (hB : Bk L sh_Pile k) (hB1 : Bk L sh_Cut k1) (hB2 : Bk L sh_Board k2) (r5 : Int32 → Int32 → Sg → Rs) (hr5 : ∀ (x3 : Int32) (x4 : Int32) (σ : Sg), r5 x3 x4 σ = some o → Vx q E L 6 (some .int) o 5 [(1, .ref (E.2.1 (k1))), (2, .ref (E.2.1 (k2))), (3, .int x3), (4, .int x4)] [] σ) (n : Nat) : ∀ (x3 : Int32) (x4 : Int32) (x5 : Int32) (σ : Sg), f_X5_seemingPairs_b20 k k1 k2 r5 n x3 x4 x5 σ = some o → Vx q E L 6 (some .int) o 20 [(1, .ref (E.2.1 (k1))), (2, .ref (E.2.1 (k2))), (3, .int x3), (4, .int x4), (5, .int x5)] [] σ := by
  induction n with
  | zero => intro x3 x4 x5 σ hf; cases (show (none : Rs) = some o from hf)
  | succ n ih =>
    intro x3 x4 x5 σ hf
    rw [f_X5_seemingPairs_b20] at hf
    refine v_iload 20 C dX5_seemingPairs_20 rfl ?_
    refine v_aload_n 22 C dX5_seemingPairs_22 rfl rfl ?_
    refine v_getI (dum := 0) 23 C lk_X5_31 (hB1 0 _ rfl) (by decide) rfl dX5_seemingPairs_23 ?_
    refine v_icmp_ge (tgt := 66) 26 C dX5_seemingPairs_26 (by decide) hf (fun hf => ?_) (fun hf => ?_)
    · refine v_iinc (v := x4 + 1) (lv' := [(1, .ref (E.2.1 (k1))), (2, .ref (E.2.1 (k2))), (3, .int x3), (4, .int (x4 + 1)), (5, .int x5)]) 66 C dX5_seemingPairs_66 rfl (by rfl) (by decide) rfl rfl ?_
      refine v_goto (tgt := 5) 69 C dX5_seemingPairs_69 (by decide) ?_
      exact Vx.lv [0, 1, 2, 3] rfl (hr5 x3 (x4 + 1) σ hf)
    · refine v_aload_n 29 C dX5_seemingPairs_29 rfl rfl ?_
      refine v_getR 30 C lk_X5_45 (hB2 0 _ rfl) (by decide) rfl dX5_seemingPairs_30 ?_
      refine v_iload 33 C dX5_seemingPairs_33 rfl ?_
      refine v_zald 35 C (hB2 5 _ rfl) dX5_seemingPairs_35 hf (fun v1 hf => ?_)
      refine v_if_ne (tgt := 60) 36 C dX5_seemingPairs_36 (by decide) hf (fun hf => ?_) (fun hf => ?_)
      · exact Vx.lv [0, 1, 2, 3, 4] rfl (k_X5_seemingPairs_b60 C k k1 k2 hB hB1 hB2 r5 hr5 (f_X5_seemingPairs_b20 k k1 k2 r5 n) ih x3 x4 x5 σ hf)
      · refine v_aload_n 39 C dX5_seemingPairs_39 rfl rfl ?_
        refine v_getR 40 C lk_X5_45 (hB2 0 _ rfl) (by decide) rfl dX5_seemingPairs_40 ?_
        refine v_iload 43 C dX5_seemingPairs_43 rfl ?_
        refine v_zald 45 C (hB2 5 _ rfl) dX5_seemingPairs_45 hf (fun v2 hf => ?_)
        refine v_if_ne (tgt := 60) 46 C dX5_seemingPairs_46 (by decide) hf (fun hf => ?_) (fun hf => ?_)
        · exact Vx.lv [0, 1, 2, 3, 4] rfl (k_X5_seemingPairs_b60 C k k1 k2 hB hB1 hB2 r5 hr5 (f_X5_seemingPairs_b20 k k1 k2 r5 n) ih x3 x4 x5 σ hf)
        · refine v_iload_n 49 C dX5_seemingPairs_49 rfl rfl ?_
          refine v_aload_n 50 C dX5_seemingPairs_50 rfl rfl ?_
          refine v_iload 51 C dX5_seemingPairs_51 rfl ?_
          refine v_iload 53 C dX5_seemingPairs_53 rfl ?_
          refine v_callS (st := [.int x3]) 55 C [.ref (E.2.1 (k1)), .int x4, .int x5] lm_X5_71 lz_X5_seemingSides dX5_seemingPairs_55 rfl (by decide) rfl (Nat.le_of_ble_eq_true rfl) (fun o1 h1 => m_X5_seemingSides k1 hB1 x4 x5 σ o1 h1) hf (fun v3 s4 hf => ?_)
          refine v_iadd 58 C dX5_seemingPairs_58 ?_
          refine v_istore_n (lv' := [(1, .ref (E.2.1 (k1))), (2, .ref (E.2.1 (k2))), (3, .int (x3 + v3)), (4, .int x4), (5, .int x5)]) 59 C dX5_seemingPairs_59 rfl (by decide) rfl rfl ?_
          exact Vx.lv [0, 1, 2, 3, 4] rfl (k_X5_seemingPairs_b60 C k k1 k2 hB hB1 hB2 r5 hr5 (f_X5_seemingPairs_b20 k k1 k2 r5 n) ih (x3 + v3) x4 x5 s4 hf)
def f_X5_seemingPairs_b5 (k k1 k2 : Nat)  : Nat → Int32 → Int32 → Sg → Rs
  | 0, _, _, _ => none
  | n + 1, x3, x4, σ => if (σ (k1) 2) ≤ x4 then (some (x3, σ)) else (f_X5_seemingPairs_b20 k k1 k2 (f_X5_seemingPairs_b5 k k1 k2 n) fu x3 x4 (x4 + 1) σ)
set_option maxRecDepth 100000 in
set_option maxHeartbeats 4000000 in
theorem k_X5_seemingPairs_b5 {q : Mc} {E : En} {L : List Nat} {o : Int32 × Sg} (C : Cx q E L cX5_seemingPairs 6 RX5 (some .int) (3)) (k k1 k2 : Nat) (hB : Bk L sh_Pile k) (hB1 : Bk L sh_Cut k1) (hB2 : Bk L sh_Board k2) (n : Nat) : ∀ (x3 : Int32) (x4 : Int32) (σ : Sg), f_X5_seemingPairs_b5 k k1 k2 n x3 x4 σ = some o → Vx q E L 6 (some .int) o 5 [(1, .ref (E.2.1 (k1))), (2, .ref (E.2.1 (k2))), (3, .int x3), (4, .int x4)] [] σ := by
  induction n with
  | zero => intro x3 x4 σ hf; cases (show (none : Rs) = some o from hf)
  | succ n ih =>
    intro x3 x4 σ hf
    rw [f_X5_seemingPairs_b5] at hf
    refine v_iload 5 C dX5_seemingPairs_5 rfl ?_
    refine v_aload_n 7 C dX5_seemingPairs_7 rfl rfl ?_
    refine v_getI (dum := 0) 8 C lk_X5_31 (hB1 0 _ rfl) (by decide) rfl dX5_seemingPairs_8 ?_
    refine v_icmp_ge (tgt := 72) 11 C dX5_seemingPairs_11 (by decide) hf (fun hf => ?_) (fun hf => ?_)
    · refine v_iload_n 72 C dX5_seemingPairs_72 rfl rfl ?_
      exact v_iret 73 C rfl dX5_seemingPairs_73 hf
    · refine v_iload 14 C dX5_seemingPairs_14 rfl ?_
      refine v_iconst (v := 1) 16 C dX5_seemingPairs_16 (by decide) ?_
      refine v_iadd 17 C dX5_seemingPairs_17 ?_
      refine v_istore (lv' := [(1, .ref (E.2.1 (k1))), (2, .ref (E.2.1 (k2))), (3, .int x3), (4, .int x4), (5, .int (x4 + 1))]) 18 C dX5_seemingPairs_18 (by decide) rfl rfl ?_
      exact Vx.lv [0, 1, 2, 3, 4] rfl (k_X5_seemingPairs_b20 C k k1 k2 hB hB1 hB2 (f_X5_seemingPairs_b5 k k1 k2 n) ih fu x3 x4 (x4 + 1) σ hf)
def f_X5_seemingPairs (k k1 k2 : Nat) (σ : Sg) : Rs := f_X5_seemingPairs_b5 k k1 k2 fu 0 0 σ
set_option maxRecDepth 100000 in
set_option maxHeartbeats 4000000 in
theorem k_X5_seemingPairs_b0 {q : Mc} {E : En} {L : List Nat} {o : Int32 × Sg} (C : Cx q E L cX5_seemingPairs 6 RX5 (some .int) (3)) (k k1 k2 : Nat) (hB : Bk L sh_Pile k) (hB1 : Bk L sh_Cut k1) (hB2 : Bk L sh_Board k2) (σ : Sg) (hf : f_X5_seemingPairs k k1 k2 σ = some o) : Vx q E L 6 (some .int) o 0 [(0, .ref (E.2.1 (k))), (1, .ref (E.2.1 (k1))), (2, .ref (E.2.1 (k2)))] [] σ := by
  unfold f_X5_seemingPairs at hf
  refine v_iconst (v := 0) 0 C dX5_seemingPairs_0 (by decide) ?_
  refine v_istore_n (lv' := [(0, .ref (E.2.1 (k))), (1, .ref (E.2.1 (k1))), (2, .ref (E.2.1 (k2))), (3, .int 0)]) 1 C dX5_seemingPairs_1 rfl (by decide) rfl rfl ?_
  refine v_iconst (v := 0) 2 C dX5_seemingPairs_2 (by decide) ?_
  refine v_istore (lv' := [(0, .ref (E.2.1 (k))), (1, .ref (E.2.1 (k1))), (2, .ref (E.2.1 (k2))), (3, .int 0), (4, .int 0)]) 3 C dX5_seemingPairs_3 (by decide) rfl rfl ?_
  exact Vx.lv [1, 2, 3, 4] rfl (k_X5_seemingPairs_b5 C k k1 k2 hB hB1 hB2 fu 0 0 σ hf)
theorem m_X5_seemingPairs {l : Launch} {E : En} {L : List Nat} (k k1 k2 : Nat) (hB : Bk L sh_Pile k) (hB1 : Bk L sh_Cut k1) (hB2 : Bk L sh_Board k2) (σ : Sg) (o : Int32 × Sg) (hf : f_X5_seemingPairs k k1 k2 σ = some o) : Mi l yX5_seemingPairs cX5_seemingPairs 6 (some .int) (3) E L [.ref (E.2.1 (k)), .ref (E.2.1 (k1)), .ref (E.2.1 (k2))] σ o :=
  Mi.of RX5 rfl (by decide) (Nat.le_of_ble_eq_true rfl) (fun q hq C => by subst hq; exact k_X5_seemingPairs_b0 C k k1 k2 hB hB1 hB2  σ hf)
