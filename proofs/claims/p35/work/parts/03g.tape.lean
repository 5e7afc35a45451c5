/-! printed by wip/whole/gen/gen.py: methods as pure functions, and that the machine does them -/
def f_X7_take_b3 (k : Nat)  : Nat → Int32 → Int64 → Int32 → Sg → Rs
  | 0, _, _, _, _ => none
  | n + 1, x1, x2, x4, σ => if x1 ≤ x4 then (some (0, σ)) else (if (64 : Int32) ≤ (σ (k) 1) then (some (0, σ)) else (p_wr σ (k + 1) 64 (σ (k) 1) (nc ((((((((x2.toUInt64 >>> (((8 * x4) : Int32).toInt64.toUInt64 &&& Int64.toUInt64 63)).toInt64) &&& 255) : Int64).toInt32) : Int32).toUInt32 % 65536).toInt32)) (fun s1 => p_put s1 (k) 1 ((s1 (k) 1) + 1) (fun s2 => f_X7_take_b3 k n x1 x2 (x4 + 1) s2))))
set_option maxRecDepth 100000 in
set_option maxHeartbeats 4000000 in
theorem k_X7_take_b3 {q : Mc} {E : En} {L : List Nat} {o : Int32 × Sg} (C : Cx q E L cX7_take 5 RX7 none (1)) (k : Nat) (hB : Bk L sh_Tape k) (n : Nat) : ∀ (x1 : Int32) (x2 : Int64) (x4 : Int32) (σ : Sg), f_X7_take_b3 k n x1 x2 x4 σ = some o → Vx q E L 5 none o 3 [(0, .ref (E.2.1 (k))), (1, .int x1), (2, .long x2), (4, .int x4)] [] σ := by
  induction n with
  | zero => intro x1 x2 x4 σ hf; cases (show (none : Rs) = some o from hf)
  | succ n ih =>
    intro x1 x2 x4 σ hf
    rw [f_X7_take_b3] at hf
    refine v_iload 3 C dX7_take_3 rfl ?_
    refine v_iload_n 5 C dX7_take_5 rfl rfl ?_
    refine v_icmp_ge (tgt := 56) 6 C dX7_take_6 (by decide) hf (fun hf => ?_) (fun hf => ?_)
    · exact v_ret (r := 0) 56 C rfl dX7_take_56 hf
    · refine v_aload_n 9 C dX7_take_9 rfl rfl ?_
      refine v_getI (dum := 0) 10 C lk_X7_15 (hB 0 _ rfl) (by decide) rfl dX7_take_10 ?_
      refine v_bipush (v := 64) 13 C dX7_take_13 (by decide) ?_
      refine v_icmp_ge (tgt := 56) 15 C dX7_take_15 (by decide) hf (fun hf => ?_) (fun hf => ?_)
      · exact v_ret (r := 0) 56 C rfl dX7_take_56 hf
      · refine v_aload_n 18 C dX7_take_18 rfl rfl ?_
        refine v_getR 19 C lk_X7_9 (hB 0 _ rfl) (by decide) rfl dX7_take_19 ?_
        refine v_aload_n 22 C dX7_take_22 rfl rfl ?_
        refine v_getI (dum := 0) 23 C lk_X7_15 (hB 0 _ rfl) (by decide) rfl dX7_take_23 ?_
        refine v_lload_n 26 C dX7_take_26 rfl rfl ?_
        refine v_bipush (v := 8) 27 C dX7_take_27 (by decide) ?_
        refine v_iload 29 C dX7_take_29 rfl ?_
        refine v_imul 31 C dX7_take_31 ?_
        refine v_lushr 32 C dX7_take_32 ?_
        refine v_ldc2 33 C co_X7_19 dX7_take_33 ?_
        refine v_land 36 C dX7_take_36 ?_
        refine v_l2i 37 C dX7_take_37 ?_
        refine v_i2c 38 C dX7_take_38 ?_
        refine v_cast 39 C (hB 1 _ rfl) dX7_take_39 hf (fun s1 hf => ?_)
        refine v_aload_n 40 C dX7_take_40 rfl rfl ?_
        refine v_dup 41 C dX7_take_41 rfl ?_
        refine v_getI (dum := 0) 42 C lk_X7_15 (hB 0 _ rfl) (by decide) rfl dX7_take_42 ?_
        refine v_iconst (v := 1) 45 C dX7_take_45 (by decide) ?_
        refine v_iadd 46 C dX7_take_46 ?_
        refine v_putI 47 C lp_X7_15 (hB 0 _ rfl) (by decide) rfl dX7_take_47 hf (fun s2 hf => ?_)
        refine v_iinc (v := x4 + 1) (lv' := [(0, .ref (E.2.1 (k))), (1, .int x1), (2, .long x2), (4, .int (x4 + 1))]) 50 C dX7_take_50 rfl (by rfl) (by decide) rfl rfl ?_
        refine v_goto (tgt := 3) 53 C dX7_take_53 (by decide) ?_
        exact Vx.lv [0, 1, 2, 3] rfl (ih x1 x2 (x4 + 1) s2 hf)
def f_X7_take (k : Nat) (x1 : Int32) (x2 : Int64) (σ : Sg) : Rs := f_X7_take_b3 k fu x1 x2 0 σ
set_option maxRecDepth 100000 in
set_option maxHeartbeats 4000000 in
theorem k_X7_take_b0 {q : Mc} {E : En} {L : List Nat} {o : Int32 × Sg} (C : Cx q E L cX7_take 5 RX7 none (1)) (k : Nat) (hB : Bk L sh_Tape k) (x1 : Int32) (x2 : Int64) (σ : Sg) (hf : f_X7_take k x1 x2 σ = some o) : Vx q E L 5 none o 0 [(0, .ref (E.2.1 (k))), (1, .int x1), (2, .long x2)] [] σ := by
  unfold f_X7_take at hf
  refine v_iconst (v := 0) 0 C dX7_take_0 (by decide) ?_
  refine v_istore (lv' := [(0, .ref (E.2.1 (k))), (1, .int x1), (2, .long x2), (4, .int 0)]) 1 C dX7_take_1 (by decide) rfl rfl ?_
  exact Vx.lv [0, 1, 2, 3] rfl (k_X7_take_b3 C k hB fu x1 x2 0 σ hf)
theorem m_X7_take {l : Launch} {E : En} {L : List Nat} (k : Nat) (hB : Bk L sh_Tape k) (x1 : Int32) (x2 : Int64) (σ : Sg) (o : Int32 × Sg) (hf : f_X7_take k x1 x2 σ = some o) : Mi l yX7_take cX7_take 5 none (1) E L [.ref (E.2.1 (k)), .int x1, .long x2] σ o :=
  Mi.of RX7 rfl (by decide) (Nat.le_of_ble_eq_true rfl) (fun q hq C => by subst hq; exact k_X7_take_b0 C k hB x1 x2 σ hf)
def f_X7_isNext (k c1 : Nat) (σ : Sg) : Rs := if (σ (k) 3) = 0 then (if (σ (k) 1) ≤ (σ (k) 2) then (some (0, σ)) else (p_rd σ (k + 1) 64 (σ (k) 2) (fun v1 => p_call (f_J0_indexOf_0f7a4 c1 v1 σ) (fun v2 s3 => if v2 < 0 then (some (0, s3)) else (some (1, s3)))))) else (some (0, σ))
set_option maxRecDepth 100000 in
set_option maxHeartbeats 4000000 in
theorem k_X7_isNext_b0 {q : Mc} {E : En} {L : List Nat} {o : Int32 × Sg} (C : Cx q E L cX7_isNext 2 RX7 (some .boolean) (5)) (k c1 : Nat) (hB : Bk L sh_Tape k) (hc1 : c1 < 7) (σ : Sg) (hf : f_X7_isNext k c1 σ = some o) : Vx q E L 2 (some .boolean) o 0 [(0, .ref (E.2.1 (k))), (1, .ref (E.2.2.2.1 c1))] [] σ := by
  unfold f_X7_isNext at hf
  refine v_aload_n 0 C dX7_isNext_0 rfl rfl ?_
  refine v_getI (dum := 0) 1 C lk_X7_24 (hB 0 _ rfl) (by decide) rfl dX7_isNext_1 ?_
  refine v_if_ne (tgt := 38) 4 C dX7_isNext_4 (by decide) hf (fun hf => ?_) (fun hf => ?_)
  · refine v_iconst (v := 0) 38 C dX7_isNext_38 (by decide) ?_
    exact v_zretN 39 C rfl dX7_isNext_39 (by decide) hf
  · refine v_aload_n 7 C dX7_isNext_7 rfl rfl ?_
    refine v_getI (dum := 0) 8 C lk_X7_21 (hB 0 _ rfl) (by decide) rfl dX7_isNext_8 ?_
    refine v_aload_n 11 C dX7_isNext_11 rfl rfl ?_
    refine v_getI (dum := 0) 12 C lk_X7_15 (hB 0 _ rfl) (by decide) rfl dX7_isNext_12 ?_
    refine v_icmp_ge (tgt := 38) 15 C dX7_isNext_15 (by decide) hf (fun hf => ?_) (fun hf => ?_)
    · refine v_iconst (v := 0) 38 C dX7_isNext_38 (by decide) ?_
      exact v_zretN 39 C rfl dX7_isNext_39 (by decide) hf
    · refine v_aload_n 18 C dX7_isNext_18 rfl rfl ?_
      refine v_aload_n 19 C dX7_isNext_19 rfl rfl ?_
      refine v_getR 20 C lk_X7_9 (hB 0 _ rfl) (by decide) rfl dX7_isNext_20 ?_
      refine v_aload_n 23 C dX7_isNext_23 rfl rfl ?_
      refine v_getI (dum := 0) 24 C lk_X7_21 (hB 0 _ rfl) (by decide) rfl dX7_isNext_24 ?_
      refine v_cald 27 C (hB 1 _ rfl) dX7_isNext_27 hf (fun v1 hf => ?_)
      refine v_callT (st := []) 28 C [.int v1] lmj_X7_62 ls_J0_indexOf_0f7a4 hc1 dX7_isNext_28 rfl (by decide) rfl (Nat.le_of_ble_eq_true rfl) (fun o1 h1 => m_J0_indexOf_0f7a4 c1 hc1 v1 σ o1 h1) hf (fun v2 s3 hf => ?_)
      refine v_if_lt (tgt := 38) 31 C dX7_isNext_31 (by decide) hf (fun hf => ?_) (fun hf => ?_)
      · refine v_iconst (v := 0) 38 C dX7_isNext_38 (by decide) ?_
        exact v_zretN 39 C rfl dX7_isNext_39 (by decide) hf
      · refine v_iconst (v := 1) 34 C dX7_isNext_34 (by decide) ?_
        refine v_goto (tgt := 39) 35 C dX7_isNext_35 (by decide) ?_
        exact v_zretN 39 C rfl dX7_isNext_39 (by decide) hf
theorem m_X7_isNext {l : Launch} {E : En} {L : List Nat} (k c1 : Nat) (hB : Bk L sh_Tape k) (hc1 : c1 < 7) (σ : Sg) (o : Int32 × Sg) (hf : f_X7_isNext k c1 σ = some o) : Mi l yX7_isNext cX7_isNext 2 (some .boolean) (5) E L [.ref (E.2.1 (k)), .ref (E.2.2.2.1 c1)] σ o :=
  Mi.of RX7 rfl (by decide) (Nat.le_of_ble_eq_true rfl) (fun q hq C => by subst hq; exact k_X7_isNext_b0 C k c1 hB hc1  σ hf)
def f_X7_passOneOf (k c1 : Nat) (σ : Sg) : Rs := p_call (f_X7_isNext k c1 σ) (fun v1 s2 => if v1 = 0 then (p_bo 1 (p_put s2 (k) 3 1 (fun s3 => some (0, s3)))) else (p_put s2 (k) 2 ((s2 (k) 2) + 1) (fun s4 => some (0, s4))))
set_option maxRecDepth 100000 in
set_option maxHeartbeats 4000000 in
theorem k_X7_passOneOf_b0 {q : Mc} {E : En} {L : List Nat} {o : Int32 × Sg} (C : Cx q E L cX7_passOneOf 2 RX7 none (6)) (k c1 : Nat) (hB : Bk L sh_Tape k) (hc1 : c1 < 7) (σ : Sg) (hf : f_X7_passOneOf k c1 σ = some o) : Vx q E L 2 none o 0 [(0, .ref (E.2.1 (k))), (1, .ref (E.2.2.2.1 c1))] [] σ := by
  unfold f_X7_passOneOf at hf
  refine v_aload_n 0 C dX7_passOneOf_0 rfl rfl ?_
  refine v_aload_n 1 C dX7_passOneOf_1 rfl rfl ?_
  refine v_callV (st := []) 2 C [.ref (E.2.2.2.1 c1)] lm_X7_58 ly_X7_isNext (hB 0 _ rfl) (by decide) dX7_passOneOf_2 rfl (by decide) rfl (Nat.le_of_ble_eq_true rfl) (fun o1 h1 => m_X7_isNext k c1 hB hc1  σ o1 h1) hf (fun v1 s2 hf => ?_)
  refine v_if_eq (tgt := 21) 5 C dX7_passOneOf_5 (by decide) hf (fun hf => ?_) (fun hf => ?_)
  · refine v_aload_n 21 C dX7_passOneOf_21 rfl rfl ?_
    refine v_iconst (v := 1) 22 C dX7_passOneOf_22 (by decide) ?_
    refine v_putZ 23 C lp_X7_24 (hB 0 _ rfl) (by decide) rfl dX7_passOneOf_23 hf (fun s3 hf => ?_)
    exact v_ret (r := 0) 26 C rfl dX7_passOneOf_26 hf
  · refine v_aload_n 8 C dX7_passOneOf_8 rfl rfl ?_
    refine v_dup 9 C dX7_passOneOf_9 rfl ?_
    refine v_getI (dum := 0) 10 C lk_X7_21 (hB 0 _ rfl) (by decide) rfl dX7_passOneOf_10 ?_
    refine v_iconst (v := 1) 13 C dX7_passOneOf_13 (by decide) ?_
    refine v_iadd 14 C dX7_passOneOf_14 ?_
    refine v_putI 15 C lp_X7_21 (hB 0 _ rfl) (by decide) rfl dX7_passOneOf_15 hf (fun s4 hf => ?_)
    refine v_goto (tgt := 26) 18 C dX7_passOneOf_18 (by decide) ?_
    exact v_ret (r := 0) 26 C rfl dX7_passOneOf_26 hf
theorem m_X7_passOneOf {l : Launch} {E : En} {L : List Nat} (k c1 : Nat) (hB : Bk L sh_Tape k) (hc1 : c1 < 7) (σ : Sg) (o : Int32 × Sg) (hf : f_X7_passOneOf k c1 σ = some o) : Mi l yX7_passOneOf cX7_passOneOf 2 none (6) E L [.ref (E.2.1 (k)), .ref (E.2.2.2.1 c1)] σ o :=
  Mi.of RX7 rfl (by decide) (Nat.le_of_ble_eq_true rfl) (fun q hq C => by subst hq; exact k_X7_passOneOf_b0 C k c1 hB hc1  σ hf)
def f_X7_passCell (k : Nat) (σ : Sg) : Rs := p_call (f_X7_passOneOf k 1 σ) (fun v1 s2 => p_call (f_X7_isNext k 1 s2) (fun v3 s4 => if v3 = 0 then (some (0, s4)) else (p_put s4 (k) 2 ((s4 (k) 2) + 1) (fun s5 => some (0, s5)))))
set_option maxRecDepth 100000 in
set_option maxHeartbeats 4000000 in
theorem k_X7_passCell_b0 {q : Mc} {E : En} {L : List Nat} {o : Int32 × Sg} (C : Cx q E L cX7_passCell 1 RX7 none (7)) (k : Nat) (hB : Bk L sh_Tape k) (σ : Sg) (hf : f_X7_passCell k σ = some o) : Vx q E L 1 none o 0 [(0, .ref (E.2.1 (k)))] [] σ := by
  unfold f_X7_passCell at hf
  refine v_aload_n 0 C dX7_passCell_0 rfl rfl ?_
  refine v_ldcS 1 C 1 (by decide) rfl rfl dX7_passCell_1 ?_
  refine v_callV (st := []) 3 C [.ref (E.2.2.2.1 1)] lm_X7_37 ly_X7_passOneOf (hB 0 _ rfl) (by decide) dX7_passCell_3 rfl (by decide) rfl (Nat.le_of_ble_eq_true rfl) (fun o1 h1 => m_X7_passOneOf k 1 hB (by decide)  σ o1 h1) hf (fun v1 s2 hf => ?_)
  refine v_aload_n 6 C dX7_passCell_6 rfl rfl ?_
  refine v_ldcS 7 C 1 (by decide) rfl rfl dX7_passCell_7 ?_
  refine v_callV (st := []) 9 C [.ref (E.2.2.2.1 1)] lm_X7_58 ly_X7_isNext (hB 0 _ rfl) (by decide) dX7_passCell_9 rfl (by decide) rfl (Nat.le_of_ble_eq_true rfl) (fun o1 h1 => m_X7_isNext k 1 hB (by decide)  s2 o1 h1) hf (fun v3 s4 hf => ?_)
  refine v_if_eq (tgt := 25) 12 C dX7_passCell_12 (by decide) hf (fun hf => ?_) (fun hf => ?_)
  · exact v_ret (r := 0) 25 C rfl dX7_passCell_25 hf
  · refine v_aload_n 15 C dX7_passCell_15 rfl rfl ?_
    refine v_dup 16 C dX7_passCell_16 rfl ?_
    refine v_getI (dum := 0) 17 C lk_X7_21 (hB 0 _ rfl) (by decide) rfl dX7_passCell_17 ?_
    refine v_iconst (v := 1) 20 C dX7_passCell_20 (by decide) ?_
    refine v_iadd 21 C dX7_passCell_21 ?_
    refine v_putI 22 C lp_X7_21 (hB 0 _ rfl) (by decide) rfl dX7_passCell_22 hf (fun s5 hf => ?_)
    exact v_ret (r := 0) 25 C rfl dX7_passCell_25 hf
theorem m_X7_passCell {l : Launch} {E : En} {L : List Nat} (k : Nat) (hB : Bk L sh_Tape k) (σ : Sg) (o : Int32 × Sg) (hf : f_X7_passCell k σ = some o) : Mi l yX7_passCell cX7_passCell 1 none (7) E L [.ref (E.2.1 (k))] σ o :=
  Mi.of RX7 rfl (by decide) (Nat.le_of_ble_eq_true rfl) (fun q hq C => by subst hq; exact k_X7_passCell_b0 C k hB  σ hf)
def f_X7_passStatement_b139 (k : Nat) (σ : Sg) : Rs := p_call (f_X7_passOneOf k 6 σ) (fun v1 s2 => some (0, s2))
set_option maxRecDepth 100000 in
set_option maxHeartbeats 4000000 in
theorem k_X7_passStatement_b139 {q : Mc} {E : En} {L : List Nat} {o : Int32 × Sg} (C : Cx q E L cX7_passStatement 2 RX7 none (8)) (k : Nat) (hB : Bk L sh_Tape k) (σ : Sg) (hf : f_X7_passStatement_b139 k σ = some o) : Vx q E L 2 none o 139 [(0, .ref (E.2.1 (k)))] [] σ := by
  unfold f_X7_passStatement_b139 at hf
  refine v_aload_n 139 C dX7_passStatement_139 rfl rfl ?_
  refine v_ldcS 140 C 6 (by decide) rfl rfl dX7_passStatement_140 ?_
  refine v_callV (st := []) 142 C [.ref (E.2.2.2.1 6)] lm_X7_37 ly_X7_passOneOf (hB 0 _ rfl) (by decide) dX7_passStatement_142 rfl (by decide) rfl (Nat.le_of_ble_eq_true rfl) (fun o1 h1 => m_X7_passOneOf k 6 hB (by decide)  σ o1 h1) hf (fun v1 s2 hf => ?_)
  exact v_ret (r := 0) 145 C rfl dX7_passStatement_145 hf
def f_X7_passStatement_b24 (k : Nat) (t0 : Int32) (σ : Sg) : Rs := p_call (f_X7_passOneOf k 0 σ) (fun v1 s2 => if t0 = 99 then (p_call (f_X7_passCell k s2) (fun v3 s4 => p_call (f_X7_passOneOf k 4 s4) (fun v5 s6 => p_call (f_X7_passOneOf k 1 s6) (fun v7 s8 => f_X7_passStatement_b139 k s8)))) else (if t0 = 101 then (p_call (f_X7_passCell k s2) (fun v9 s10 => p_call (f_X7_passOneOf k 2 s10) (fun v11 s12 => p_call (f_X7_passOneOf k 3 s12) (fun v13 s14 => p_call (f_X7_passOneOf k 1 s14) (fun v15 s16 => f_X7_passStatement_b139 k s16))))) else (if t0 = 122 then (p_call (f_X7_passOneOf k 1 s2) (fun v17 s18 => p_call (f_X7_passOneOf k 1 s18) (fun v19 s20 => f_X7_passStatement_b139 k s20))) else (p_call (f_X7_passOneOf k 5 s2) (fun v21 s22 => p_call (f_X7_passOneOf k 1 s22) (fun v23 s24 => f_X7_passStatement_b139 k s24))))))
set_option maxRecDepth 100000 in
set_option maxHeartbeats 4000000 in
theorem k_X7_passStatement_b24 {q : Mc} {E : En} {L : List Nat} {o : Int32 × Sg} (C : Cx q E L cX7_passStatement 2 RX7 none (8)) (k : Nat) (hB : Bk L sh_Tape k) (t0 : Int32) (σ : Sg) (hf : f_X7_passStatement_b24 k t0 σ = some o) : Vx q E L 2 none o 24 [(0, .ref (E.2.1 (k)))] [.int t0] σ := by
  unfold f_X7_passStatement_b24 at hf
  refine v_istore_n (lv' := [(0, .ref (E.2.1 (k))), (1, .int t0)]) 24 C dX7_passStatement_24 rfl (by decide) rfl rfl ?_
  refine v_aload_n 25 C dX7_passStatement_25 rfl rfl ?_
  refine v_ldcS 26 C 0 (by decide) rfl rfl dX7_passStatement_26 ?_
  refine v_callV (st := []) 28 C [.ref (E.2.2.2.1 0)] lm_X7_37 ly_X7_passOneOf (hB 0 _ rfl) (by decide) dX7_passStatement_28 rfl (by decide) rfl (Nat.le_of_ble_eq_true rfl) (fun o1 h1 => m_X7_passOneOf k 0 hB (by decide)  σ o1 h1) hf (fun v1 s2 hf => ?_)
  refine v_iload_n 31 C dX7_passStatement_31 rfl rfl ?_
  refine v_case (v := 99) hf (fun hx hf => ?_) (fun hn0 hf => ?_)
  · refine v_look (off := 76) (tgt := 108) 32 C dX7_passStatement_32 (by decide) (by rw [hx]; try rfl) (by decide) ?_
    refine v_aload_n 108 C dX7_passStatement_108 rfl rfl ?_
    refine v_callV (st := []) 109 C [] lm_X7_43 ly_X7_passCell (hB 0 _ rfl) (by decide) dX7_passStatement_109 rfl (by decide) rfl (Nat.le_of_ble_eq_true rfl) (fun o1 h1 => m_X7_passCell k hB  s2 o1 h1) hf (fun v3 s4 hf => ?_)
    refine v_aload_n 112 C dX7_passStatement_112 rfl rfl ?_
    refine v_ldcS 113 C 4 (by decide) rfl rfl dX7_passStatement_113 ?_
    refine v_callV (st := []) 115 C [.ref (E.2.2.2.1 4)] lm_X7_37 ly_X7_passOneOf (hB 0 _ rfl) (by decide) dX7_passStatement_115 rfl (by decide) rfl (Nat.le_of_ble_eq_true rfl) (fun o1 h1 => m_X7_passOneOf k 4 hB (by decide)  s4 o1 h1) hf (fun v5 s6 hf => ?_)
    refine v_aload_n 118 C dX7_passStatement_118 rfl rfl ?_
    refine v_ldcS 119 C 1 (by decide) rfl rfl dX7_passStatement_119 ?_
    refine v_callV (st := []) 121 C [.ref (E.2.2.2.1 1)] lm_X7_37 ly_X7_passOneOf (hB 0 _ rfl) (by decide) dX7_passStatement_121 rfl (by decide) rfl (Nat.le_of_ble_eq_true rfl) (fun o1 h1 => m_X7_passOneOf k 1 hB (by decide)  s6 o1 h1) hf (fun v7 s8 hf => ?_)
    refine v_goto (tgt := 139) 124 C dX7_passStatement_124 (by decide) ?_
    exact Vx.lv [0] rfl (k_X7_passStatement_b139 C k hB s8 hf)
  refine v_case (v := 101) hf (fun hx hf => ?_) (fun hn1 hf => ?_)
  · refine v_look (off := 51) (tgt := 83) 32 C dX7_passStatement_32 (by decide) (by rw [hx]; try rfl) (by decide) ?_
    refine v_aload_n 83 C dX7_passStatement_83 rfl rfl ?_
    refine v_callV (st := []) 84 C [] lm_X7_43 ly_X7_passCell (hB 0 _ rfl) (by decide) dX7_passStatement_84 rfl (by decide) rfl (Nat.le_of_ble_eq_true rfl) (fun o1 h1 => m_X7_passCell k hB  s2 o1 h1) hf (fun v9 s10 hf => ?_)
    refine v_aload_n 87 C dX7_passStatement_87 rfl rfl ?_
    refine v_ldcS 88 C 2 (by decide) rfl rfl dX7_passStatement_88 ?_
    refine v_callV (st := []) 90 C [.ref (E.2.2.2.1 2)] lm_X7_37 ly_X7_passOneOf (hB 0 _ rfl) (by decide) dX7_passStatement_90 rfl (by decide) rfl (Nat.le_of_ble_eq_true rfl) (fun o1 h1 => m_X7_passOneOf k 2 hB (by decide)  s10 o1 h1) hf (fun v11 s12 hf => ?_)
    refine v_aload_n 93 C dX7_passStatement_93 rfl rfl ?_
    refine v_ldcS 94 C 3 (by decide) rfl rfl dX7_passStatement_94 ?_
    refine v_callV (st := []) 96 C [.ref (E.2.2.2.1 3)] lm_X7_37 ly_X7_passOneOf (hB 0 _ rfl) (by decide) dX7_passStatement_96 rfl (by decide) rfl (Nat.le_of_ble_eq_true rfl) (fun o1 h1 => m_X7_passOneOf k 3 hB (by decide)  s12 o1 h1) hf (fun v13 s14 hf => ?_)
    refine v_aload_n 99 C dX7_passStatement_99 rfl rfl ?_
    refine v_ldcS 100 C 1 (by decide) rfl rfl dX7_passStatement_100 ?_
    refine v_callV (st := []) 102 C [.ref (E.2.2.2.1 1)] lm_X7_37 ly_X7_passOneOf (hB 0 _ rfl) (by decide) dX7_passStatement_102 rfl (by decide) rfl (Nat.le_of_ble_eq_true rfl) (fun o1 h1 => m_X7_passOneOf k 1 hB (by decide)  s14 o1 h1) hf (fun v15 s16 hf => ?_)
    refine v_goto (tgt := 139) 105 C dX7_passStatement_105 (by decide) ?_
    exact Vx.lv [0] rfl (k_X7_passStatement_b139 C k hB s16 hf)
  refine v_case (v := 122) hf (fun hx hf => ?_) (fun hn2 hf => ?_)
  · refine v_look (off := 36) (tgt := 68) 32 C dX7_passStatement_32 (by decide) (by rw [hx]; try rfl) (by decide) ?_
    refine v_aload_n 68 C dX7_passStatement_68 rfl rfl ?_
    refine v_ldcS 69 C 1 (by decide) rfl rfl dX7_passStatement_69 ?_
    refine v_callV (st := []) 71 C [.ref (E.2.2.2.1 1)] lm_X7_37 ly_X7_passOneOf (hB 0 _ rfl) (by decide) dX7_passStatement_71 rfl (by decide) rfl (Nat.le_of_ble_eq_true rfl) (fun o1 h1 => m_X7_passOneOf k 1 hB (by decide)  s2 o1 h1) hf (fun v17 s18 hf => ?_)
    refine v_aload_n 74 C dX7_passStatement_74 rfl rfl ?_
    refine v_ldcS 75 C 1 (by decide) rfl rfl dX7_passStatement_75 ?_
    refine v_callV (st := []) 77 C [.ref (E.2.2.2.1 1)] lm_X7_37 ly_X7_passOneOf (hB 0 _ rfl) (by decide) dX7_passStatement_77 rfl (by decide) rfl (Nat.le_of_ble_eq_true rfl) (fun o1 h1 => m_X7_passOneOf k 1 hB (by decide)  s18 o1 h1) hf (fun v19 s20 hf => ?_)
    refine v_goto (tgt := 139) 80 C dX7_passStatement_80 (by decide) ?_
    exact Vx.lv [0] rfl (k_X7_passStatement_b139 C k hB s20 hf)
  refine v_look (off := 95) (tgt := 127) 32 C dX7_passStatement_32 (by decide) (by refine (lv_osw hn0 rfl).trans ?_; refine (lv_osw hn1 rfl).trans ?_; refine (lv_osw hn2 rfl).trans ?_; rfl) (by decide) ?_
  refine v_aload_n 127 C dX7_passStatement_127 rfl rfl ?_
  refine v_ldcS 128 C 5 (by decide) rfl rfl dX7_passStatement_128 ?_
  refine v_callV (st := []) 130 C [.ref (E.2.2.2.1 5)] lm_X7_37 ly_X7_passOneOf (hB 0 _ rfl) (by decide) dX7_passStatement_130 rfl (by decide) rfl (Nat.le_of_ble_eq_true rfl) (fun o1 h1 => m_X7_passOneOf k 5 hB (by decide)  s2 o1 h1) hf (fun v21 s22 hf => ?_)
  refine v_aload_n 133 C dX7_passStatement_133 rfl rfl ?_
  refine v_ldcS 134 C 1 (by decide) rfl rfl dX7_passStatement_134 ?_
  refine v_callV (st := []) 136 C [.ref (E.2.2.2.1 1)] lm_X7_37 ly_X7_passOneOf (hB 0 _ rfl) (by decide) dX7_passStatement_136 rfl (by decide) rfl (Nat.le_of_ble_eq_true rfl) (fun o1 h1 => m_X7_passOneOf k 1 hB (by decide)  s22 o1 h1) hf (fun v23 s24 hf => ?_)
  exact Vx.lv [0] rfl (k_X7_passStatement_b139 C k hB s24 hf)
def f_X7_passStatement (k : Nat) (σ : Sg) : Rs := if (σ (k) 1) ≤ (σ (k) 2) then (f_X7_passStatement_b24 k 0 σ) else (p_rd σ (k + 1) 64 (σ (k) 2) (fun v1 => f_X7_passStatement_b24 k v1 σ))
set_option maxRecDepth 100000 in
set_option maxHeartbeats 4000000 in
theorem k_X7_passStatement_b0 {q : Mc} {E : En} {L : List Nat} {o : Int32 × Sg} (C : Cx q E L cX7_passStatement 2 RX7 none (8)) (k : Nat) (hB : Bk L sh_Tape k) (σ : Sg) (hf : f_X7_passStatement k σ = some o) : Vx q E L 2 none o 0 [(0, .ref (E.2.1 (k)))] [] σ := by
  unfold f_X7_passStatement at hf
  refine v_aload_n 0 C dX7_passStatement_0 rfl rfl ?_
  refine v_getI (dum := 0) 1 C lk_X7_21 (hB 0 _ rfl) (by decide) rfl dX7_passStatement_1 ?_
  refine v_aload_n 4 C dX7_passStatement_4 rfl rfl ?_
  refine v_getI (dum := 0) 5 C lk_X7_15 (hB 0 _ rfl) (by decide) rfl dX7_passStatement_5 ?_
  refine v_icmp_ge (tgt := 23) 8 C dX7_passStatement_8 (by decide) hf (fun hf => ?_) (fun hf => ?_)
  · refine v_iconst (v := 0) 23 C dX7_passStatement_23 (by decide) ?_
    exact Vx.lv [0] rfl (k_X7_passStatement_b24 C k hB 0 σ hf)
  · refine v_aload_n 11 C dX7_passStatement_11 rfl rfl ?_
    refine v_getR 12 C lk_X7_9 (hB 0 _ rfl) (by decide) rfl dX7_passStatement_12 ?_
    refine v_aload_n 15 C dX7_passStatement_15 rfl rfl ?_
    refine v_getI (dum := 0) 16 C lk_X7_21 (hB 0 _ rfl) (by decide) rfl dX7_passStatement_16 ?_
    refine v_cald 19 C (hB 1 _ rfl) dX7_passStatement_19 hf (fun v1 hf => ?_)
    refine v_goto (tgt := 24) 20 C dX7_passStatement_20 (by decide) ?_
    exact Vx.lv [0] rfl (k_X7_passStatement_b24 C k hB v1 σ hf)
theorem m_X7_passStatement {l : Launch} {E : En} {L : List Nat} (k : Nat) (hB : Bk L sh_Tape k) (σ : Sg) (o : Int32 × Sg) (hf : f_X7_passStatement k σ = some o) : Mi l yX7_passStatement cX7_passStatement 2 none (8) E L [.ref (E.2.1 (k))] σ o :=
  Mi.of RX7 rfl (by decide) (Nat.le_of_ble_eq_true rfl) (fun q hq C => by subst hq; exact k_X7_passStatement_b0 C k hB  σ hf)
def f_X7_digitAt (k : Nat) (x1 : Int32) (σ : Sg) : Rs := p_rd σ (k + 1) 64 x1 (fun v1 => some (v1 - 48, σ))
set_option maxRecDepth 100000 in
set_option maxHeartbeats 4000000 in
theorem k_X7_digitAt_b0 {q : Mc} {E : En} {L : List Nat} {o : Int32 × Sg} (C : Cx q E L cX7_digitAt 2 RX7 (some .int) (1)) (k : Nat) (hB : Bk L sh_Tape k) (x1 : Int32) (σ : Sg) (hf : f_X7_digitAt k x1 σ = some o) : Vx q E L 2 (some .int) o 0 [(0, .ref (E.2.1 (k))), (1, .int x1)] [] σ := by
  unfold f_X7_digitAt at hf
  refine v_aload_n 0 C dX7_digitAt_0 rfl rfl ?_
  refine v_getR 1 C lk_X7_9 (hB 0 _ rfl) (by decide) rfl dX7_digitAt_1 ?_
  refine v_iload_n 4 C dX7_digitAt_4 rfl rfl ?_
  refine v_cald 5 C (hB 1 _ rfl) dX7_digitAt_5 hf (fun v1 hf => ?_)
  refine v_bipush (v := 48) 6 C dX7_digitAt_6 (by decide) ?_
  refine v_isub 8 C dX7_digitAt_8 ?_
  exact v_iret 9 C rfl dX7_digitAt_9 hf
theorem m_X7_digitAt {l : Launch} {E : En} {L : List Nat} (k : Nat) (hB : Bk L sh_Tape k) (x1 : Int32) (σ : Sg) (o : Int32 × Sg) (hf : f_X7_digitAt k x1 σ = some o) : Mi l yX7_digitAt cX7_digitAt 2 (some .int) (1) E L [.ref (E.2.1 (k)), .int x1] σ o :=
  Mi.of RX7 rfl (by decide) (Nat.le_of_ble_eq_true rfl) (fun q hq C => by subst hq; exact k_X7_digitAt_b0 C k hB x1 σ hf)
def f_X7_numberBetween_b5 (k : Nat)  : Nat → Int32 → Int32 → Int32 → Sg → Rs
  | 0, _, _, _, _ => none
  | n + 1, x2, x3, x4, σ => if x2 ≤ x4 then (some (x3, σ)) else (p_call (f_X7_digitAt k x4 σ) (fun v1 s2 => f_X7_numberBetween_b5 k n x2 ((x3 * 10) + v1) (x4 + 1) s2))
set_option maxRecDepth 100000 in
set_option maxHeartbeats 4000000 in
theorem k_X7_numberBetween_b5 {q : Mc} {E : En} {L : List Nat} {o : Int32 × Sg} (C : Cx q E L cX7_numberBetween 5 RX7 (some .int) (2)) (k : Nat) (hB : Bk L sh_Tape k) (n : Nat) : ∀ (x2 : Int32) (x3 : Int32) (x4 : Int32) (σ : Sg), f_X7_numberBetween_b5 k n x2 x3 x4 σ = some o → Vx q E L 5 (some .int) o 5 [(0, .ref (E.2.1 (k))), (2, .int x2), (3, .int x3), (4, .int x4)] [] σ := by
  induction n with
  | zero => intro x2 x3 x4 σ hf; cases (show (none : Rs) = some o from hf)
  | succ n ih =>
    intro x2 x3 x4 σ hf
    rw [f_X7_numberBetween_b5] at hf
    refine v_iload 5 C dX7_numberBetween_5 rfl ?_
    refine v_iload_n 7 C dX7_numberBetween_7 rfl rfl ?_
    refine v_icmp_ge (tgt := 29) 8 C dX7_numberBetween_8 (by decide) hf (fun hf => ?_) (fun hf => ?_)
    · refine v_iload_n 29 C dX7_numberBetween_29 rfl rfl ?_
      exact v_iret 30 C rfl dX7_numberBetween_30 hf
    · refine v_iload_n 11 C dX7_numberBetween_11 rfl rfl ?_
      refine v_bipush (v := 10) 12 C dX7_numberBetween_12 (by decide) ?_
      refine v_imul 14 C dX7_numberBetween_14 ?_
      refine v_aload_n 15 C dX7_numberBetween_15 rfl rfl ?_
      refine v_iload 16 C dX7_numberBetween_16 rfl ?_
      refine v_callV (st := [.int (x3 * 10)]) 18 C [.int x4] lm_X7_72 ly_X7_digitAt (hB 0 _ rfl) (by decide) dX7_numberBetween_18 rfl (by decide) rfl (Nat.le_of_ble_eq_true rfl) (fun o1 h1 => m_X7_digitAt k hB x4 σ o1 h1) hf (fun v1 s2 hf => ?_)
      refine v_iadd 21 C dX7_numberBetween_21 ?_
      refine v_istore_n (lv' := [(0, .ref (E.2.1 (k))), (2, .int x2), (3, .int ((x3 * 10) + v1)), (4, .int x4)]) 22 C dX7_numberBetween_22 rfl (by decide) rfl rfl ?_
      refine v_iinc (v := x4 + 1) (lv' := [(0, .ref (E.2.1 (k))), (2, .int x2), (3, .int ((x3 * 10) + v1)), (4, .int (x4 + 1))]) 23 C dX7_numberBetween_23 rfl (by rfl) (by decide) rfl rfl ?_
      refine v_goto (tgt := 5) 26 C dX7_numberBetween_26 (by decide) ?_
      exact Vx.lv [0, 1, 2, 3] rfl (ih x2 ((x3 * 10) + v1) (x4 + 1) s2 hf)
def f_X7_numberBetween (k : Nat) (x1 : Int32) (x2 : Int32) (σ : Sg) : Rs := f_X7_numberBetween_b5 k fu x2 0 x1 σ
set_option maxRecDepth 100000 in
set_option maxHeartbeats 4000000 in
theorem k_X7_numberBetween_b0 {q : Mc} {E : En} {L : List Nat} {o : Int32 × Sg} (C : Cx q E L cX7_numberBetween 5 RX7 (some .int) (2)) (k : Nat) (hB : Bk L sh_Tape k) (x1 : Int32) (x2 : Int32) (σ : Sg) (hf : f_X7_numberBetween k x1 x2 σ = some o) : Vx q E L 5 (some .int) o 0 [(0, .ref (E.2.1 (k))), (1, .int x1), (2, .int x2)] [] σ := by
  unfold f_X7_numberBetween at hf
  refine v_iconst (v := 0) 0 C dX7_numberBetween_0 (by decide) ?_
  refine v_istore_n (lv' := [(0, .ref (E.2.1 (k))), (1, .int x1), (2, .int x2), (3, .int 0)]) 1 C dX7_numberBetween_1 rfl (by decide) rfl rfl ?_
  refine v_iload_n 2 C dX7_numberBetween_2 rfl rfl ?_
  refine v_istore (lv' := [(0, .ref (E.2.1 (k))), (1, .int x1), (2, .int x2), (3, .int 0), (4, .int x1)]) 3 C dX7_numberBetween_3 (by decide) rfl rfl ?_
  exact Vx.lv [0, 2, 3, 4] rfl (k_X7_numberBetween_b5 C k hB fu x2 0 x1 σ hf)
theorem m_X7_numberBetween {l : Launch} {E : En} {L : List Nat} (k : Nat) (hB : Bk L sh_Tape k) (x1 : Int32) (x2 : Int32) (σ : Sg) (o : Int32 × Sg) (hf : f_X7_numberBetween k x1 x2 σ = some o) : Mi l yX7_numberBetween cX7_numberBetween 5 (some .int) (2) E L [.ref (E.2.1 (k)), .int x1, .int x2] σ o :=
  Mi.of RX7 rfl (by decide) (Nat.le_of_ble_eq_true rfl) (fun q hq C => by subst hq; exact k_X7_numberBetween_b0 C k hB x1 x2 σ hf)
def f_X7_obeySize (k k1 : Nat) (x2 : Int32) (x3 : Int32) (σ : Sg) : Rs := if x2 < 2 then (some (0, σ)) else (if 4 < x2 then (some (0, σ)) else (if x3 < 2 then (some (0, σ)) else (if x3 ≤ 4 then (p_call (f_X1_cutAnew (k1 + 1) x2 x3 σ) (fun v1 s2 => p_call (f_X0_clear (k1 + 6) s2) (fun v3 s4 => some (1, s4)))) else (some (0, σ)))))
set_option maxRecDepth 100000 in
set_option maxHeartbeats 4000000 in
theorem k_X7_obeySize_b0 {q : Mc} {E : En} {L : List Nat} {o : Int32 × Sg} (C : Cx q E L cX7_obeySize 4 RX7 (some .boolean) (3)) (k k1 : Nat) (hB : Bk L sh_Tape k) (hB1 : Bk L sh_Game k1) (x2 : Int32) (x3 : Int32) (σ : Sg) (hf : f_X7_obeySize k k1 x2 x3 σ = some o) : Vx q E L 4 (some .boolean) o 0 [(0, .ref (E.2.1 (k))), (1, .ref (E.2.1 (k1))), (2, .int x2), (3, .int x3)] [] σ := by
  unfold f_X7_obeySize at hf
  refine v_iload_n 0 C dX7_obeySize_0 rfl rfl ?_
  refine v_iconst (v := 2) 1 C dX7_obeySize_1 (by decide) ?_
  refine v_icmp_lt (tgt := 20) 2 C dX7_obeySize_2 (by decide) hf (fun hf => ?_) (fun hf => ?_)
  · refine v_iconst (v := 0) 20 C dX7_obeySize_20 (by decide) ?_
    exact v_zretN 21 C rfl dX7_obeySize_21 (by decide) hf
  · refine v_iload_n 5 C dX7_obeySize_5 rfl rfl ?_
    refine v_iconst (v := 4) 6 C dX7_obeySize_6 (by decide) ?_
    refine v_icmp_gt (tgt := 20) 7 C dX7_obeySize_7 (by decide) hf (fun hf => ?_) (fun hf => ?_)
    · refine v_iconst (v := 0) 20 C dX7_obeySize_20 (by decide) ?_
      exact v_zretN 21 C rfl dX7_obeySize_21 (by decide) hf
    · refine v_iload_n 10 C dX7_obeySize_10 rfl rfl ?_
      refine v_iconst (v := 2) 11 C dX7_obeySize_11 (by decide) ?_
      refine v_icmp_lt (tgt := 20) 12 C dX7_obeySize_12 (by decide) hf (fun hf => ?_) (fun hf => ?_)
      · refine v_iconst (v := 0) 20 C dX7_obeySize_20 (by decide) ?_
        exact v_zretN 21 C rfl dX7_obeySize_21 (by decide) hf
      · refine v_iload_n 15 C dX7_obeySize_15 rfl rfl ?_
        refine v_iconst (v := 4) 16 C dX7_obeySize_16 (by decide) ?_
        refine v_icmp_le (tgt := 22) 17 C dX7_obeySize_17 (by decide) hf (fun hf => ?_) (fun hf => ?_)
        · refine v_aload_n 22 C dX7_obeySize_22 rfl rfl ?_
          refine v_getR 23 C lk_X7_91 (hB1 0 _ rfl) (by decide) rfl dX7_obeySize_23 ?_
          refine v_iload_n 26 C dX7_obeySize_26 rfl rfl ?_
          refine v_iload_n 27 C dX7_obeySize_27 rfl rfl ?_
          refine v_callV (st := []) 28 C [.int x2, .int x3] lm_X7_97 ly_X1_cutAnew ((hB1.sub (sh' := sh_Cut) 1 rfl) 0 _ rfl) (by decide) dX7_obeySize_28 rfl (by decide) rfl (Nat.le_of_ble_eq_true rfl) (fun o1 h1 => m_X1_cutAnew (k1 + 1) (hB1.sub (sh' := sh_Cut) 1 rfl) x2 x3 σ o1 h1) hf (fun v1 s2 hf => ?_)
          refine v_aload_n 31 C dX7_obeySize_31 rfl rfl ?_
          refine v_getR 32 C lk_X7_103 (hB1 0 _ rfl) (by decide) rfl dX7_obeySize_32 ?_
          refine v_callV (st := []) 35 C [] lm_X7_107 ly_X0_clear ((hB1.sub (sh' := sh_Board) 6 rfl) 0 _ rfl) (by decide) dX7_obeySize_35 rfl (by decide) rfl (Nat.le_of_ble_eq_true rfl) (fun o1 h1 => m_X0_clear (k1 + 6) (hB1.sub (sh' := sh_Board) 6 rfl)  s2 o1 h1) hf (fun v3 s4 hf => ?_)
          refine v_iconst (v := 1) 38 C dX7_obeySize_38 (by decide) ?_
          exact v_zretN 39 C rfl dX7_obeySize_39 (by decide) hf
        · refine v_iconst (v := 0) 20 C dX7_obeySize_20 (by decide) ?_
          exact v_zretN 21 C rfl dX7_obeySize_21 (by decide) hf
theorem m_X7_obeySize {l : Launch} {E : En} {L : List Nat} (k k1 : Nat) (hB : Bk L sh_Tape k) (hB1 : Bk L sh_Game k1) (x2 : Int32) (x3 : Int32) (σ : Sg) (o : Int32 × Sg) (hf : f_X7_obeySize k k1 x2 x3 σ = some o) : Mi l yX7_obeySize cX7_obeySize 4 (some .boolean) (3) E L [.ref (E.2.1 (k)), .ref (E.2.1 (k1)), .int x2, .int x3] σ o :=
  Mi.of RX7 rfl (by decide) (Nat.le_of_ble_eq_true rfl) (fun q hq C => by subst hq; exact k_X7_obeySize_b0 C k k1 hB hB1 x2 x3 σ hf)
def f_X7_obeyEdge_b90 (k k1 : Nat) (t1 : Int32) (t2 : Int32) (t3 : Int32) (σ : Sg) : Rs := p_call (f_X1_setEdge (k1 + 1) t1 t2 t3 σ) (fun v1 s2 => some (1, s2))
set_option maxRecDepth 100000 in
set_option maxHeartbeats 4000000 in
theorem k_X7_obeyEdge_b90 {q : Mc} {E : En} {L : List Nat} {o : Int32 × Sg} (C : Cx q E L cX7_obeyEdge 6 RX7 (some .boolean) (3)) (k k1 : Nat) (hB : Bk L sh_Tape k) (hB1 : Bk L sh_Game k1) (t1 : Int32) (t2 : Int32) (t3 : Int32) (σ : Sg) (hf : f_X7_obeyEdge_b90 k k1 t1 t2 t3 σ = some o) : Vx q E L 6 (some .boolean) o 90 [] [.int t3, .int t2, .int t1, .ref (E.2.1 (k1 + 1))] σ := by
  unfold f_X7_obeyEdge_b90 at hf
  refine v_callV (st := []) 90 C [.int t1, .int t2, .int t3] lm_X7_118 ly_X1_setEdge ((hB1.sub (sh' := sh_Cut) 1 rfl) 0 _ rfl) (by decide) dX7_obeyEdge_90 rfl (by decide) rfl (Nat.le_of_ble_eq_true rfl) (fun o1 h1 => m_X1_setEdge (k1 + 1) (hB1.sub (sh' := sh_Cut) 1 rfl) t1 t2 t3 σ o1 h1) hf (fun v1 s2 hf => ?_)
  refine v_iconst (v := 1) 93 C dX7_obeyEdge_93 (by decide) ?_
  exact v_zretN 94 C rfl dX7_obeyEdge_94 (by decide) hf
def f_X7_obeyEdge_b27 (k k1 : Nat) (x2 : Int32) (x3 : Int32) (x4 : Int32) (t0 : Int32) (σ : Sg) : Rs := if (σ (k1 + 1) 2) ≤ x2 then (some (0, σ)) else (if x4 < 1 then (some (0, σ)) else (p_call (f_X1_beside (k1 + 1) x2 t0 σ) (fun v1 s2 => if v1 = (-1) then (some (0, s2)) else (p_rd s2 (k + 1) 64 (x3 - 2) (fun v3 => if v3 = 43 then (f_X7_obeyEdge_b90 k k1 x2 t0 x4 s2) else (f_X7_obeyEdge_b90 k k1 x2 t0 (-x4) s2))))))
set_option maxRecDepth 100000 in
set_option maxHeartbeats 4000000 in
theorem k_X7_obeyEdge_b27 {q : Mc} {E : En} {L : List Nat} {o : Int32 × Sg} (C : Cx q E L cX7_obeyEdge 6 RX7 (some .boolean) (3)) (k k1 : Nat) (hB : Bk L sh_Tape k) (hB1 : Bk L sh_Game k1) (x2 : Int32) (x3 : Int32) (x4 : Int32) (t0 : Int32) (σ : Sg) (hf : f_X7_obeyEdge_b27 k k1 x2 x3 x4 t0 σ = some o) : Vx q E L 6 (some .boolean) o 27 [(0, .ref (E.2.1 (k))), (1, .ref (E.2.1 (k1))), (2, .int x2), (3, .int x3), (4, .int x4)] [.int t0] σ := by
  unfold f_X7_obeyEdge_b27 at hf
  refine v_istore (lv' := [(0, .ref (E.2.1 (k))), (1, .ref (E.2.1 (k1))), (2, .int x2), (3, .int x3), (4, .int x4), (5, .int t0)]) 27 C dX7_obeyEdge_27 (by decide) rfl rfl ?_
  refine v_iload_n 29 C dX7_obeyEdge_29 rfl rfl ?_
  refine v_aload_n 30 C dX7_obeyEdge_30 rfl rfl ?_
  refine v_getR 31 C lk_X7_91 (hB1 0 _ rfl) (by decide) rfl dX7_obeyEdge_31 ?_
  refine v_getI (dum := 0) 34 C lk_X7_112 ((hB1.sub (sh' := sh_Cut) 1 rfl) 0 _ rfl) (by decide) rfl dX7_obeyEdge_34 ?_
  refine v_icmp_ge (tgt := 60) 37 C dX7_obeyEdge_37 (by decide) hf (fun hf => ?_) (fun hf => ?_)
  · refine v_iconst (v := 0) 60 C dX7_obeyEdge_60 (by decide) ?_
    exact v_zretN 61 C rfl dX7_obeyEdge_61 (by decide) hf
  · refine v_iload 40 C dX7_obeyEdge_40 rfl ?_
    refine v_iconst (v := 1) 42 C dX7_obeyEdge_42 (by decide) ?_
    refine v_icmp_lt (tgt := 60) 43 C dX7_obeyEdge_43 (by decide) hf (fun hf => ?_) (fun hf => ?_)
    · refine v_iconst (v := 0) 60 C dX7_obeyEdge_60 (by decide) ?_
      exact v_zretN 61 C rfl dX7_obeyEdge_61 (by decide) hf
    · refine v_aload_n 46 C dX7_obeyEdge_46 rfl rfl ?_
      refine v_getR 47 C lk_X7_91 (hB1 0 _ rfl) (by decide) rfl dX7_obeyEdge_47 ?_
      refine v_iload_n 50 C dX7_obeyEdge_50 rfl rfl ?_
      refine v_iload 51 C dX7_obeyEdge_51 rfl ?_
      refine v_callV (st := []) 53 C [.int x2, .int t0] lm_X7_115 ly_X1_beside ((hB1.sub (sh' := sh_Cut) 1 rfl) 0 _ rfl) (by decide) dX7_obeyEdge_53 rfl (by decide) rfl (Nat.le_of_ble_eq_true rfl) (fun o1 h1 => m_X1_beside (k1 + 1) (hB1.sub (sh' := sh_Cut) 1 rfl) x2 t0 σ o1 h1) hf (fun v1 s2 hf => ?_)
      refine v_iconst (v := (-1)) 56 C dX7_obeyEdge_56 (by decide) ?_
      refine v_icmp_ne (tgt := 62) 57 C dX7_obeyEdge_57 (by decide) hf (fun hf => ?_) (fun hf => ?_)
      · refine v_aload_n 62 C dX7_obeyEdge_62 rfl rfl ?_
        refine v_getR 63 C lk_X7_91 (hB1 0 _ rfl) (by decide) rfl dX7_obeyEdge_63 ?_
        refine v_iload_n 66 C dX7_obeyEdge_66 rfl rfl ?_
        refine v_iload 67 C dX7_obeyEdge_67 rfl ?_
        refine v_aload_n 69 C dX7_obeyEdge_69 rfl rfl ?_
        refine v_getR 70 C lk_X7_9 (hB 0 _ rfl) (by decide) rfl dX7_obeyEdge_70 ?_
        refine v_iload_n 73 C dX7_obeyEdge_73 rfl rfl ?_
        refine v_iconst (v := 2) 74 C dX7_obeyEdge_74 (by decide) ?_
        refine v_isub 75 C dX7_obeyEdge_75 ?_
        refine v_cald 76 C (hB 1 _ rfl) dX7_obeyEdge_76 hf (fun v3 hf => ?_)
        refine v_bipush (v := 43) 77 C dX7_obeyEdge_77 (by decide) ?_
        refine v_icmp_ne (tgt := 87) 79 C dX7_obeyEdge_79 (by decide) hf (fun hf => ?_) (fun hf => ?_)
        · refine v_iload 87 C dX7_obeyEdge_87 rfl ?_
          refine v_ineg 89 C dX7_obeyEdge_89 ?_
          exact Vx.lv [] rfl (k_X7_obeyEdge_b90 C k k1 hB hB1 x2 t0 (-x4) s2 hf)
        · refine v_iload 82 C dX7_obeyEdge_82 rfl ?_
          refine v_goto (tgt := 90) 84 C dX7_obeyEdge_84 (by decide) ?_
          exact Vx.lv [] rfl (k_X7_obeyEdge_b90 C k k1 hB hB1 x2 t0 x4 s2 hf)
      · refine v_iconst (v := 0) 60 C dX7_obeyEdge_60 (by decide) ?_
        exact v_zretN 61 C rfl dX7_obeyEdge_61 (by decide) hf
def f_X7_obeyEdge (k k1 : Nat) (x2 : Int32) (x3 : Int32) (σ : Sg) : Rs := p_call (f_X7_digitAt k (x3 - 1) σ) (fun v1 s2 => p_rd s2 (k + 1) 64 (x3 - 3) (fun v3 => if v3 = 114 then (f_X7_obeyEdge_b27 k k1 x2 x3 v1 1 s2) else (f_X7_obeyEdge_b27 k k1 x2 x3 v1 2 s2)))
set_option maxRecDepth 100000 in
set_option maxHeartbeats 4000000 in
theorem k_X7_obeyEdge_b0 {q : Mc} {E : En} {L : List Nat} {o : Int32 × Sg} (C : Cx q E L cX7_obeyEdge 6 RX7 (some .boolean) (3)) (k k1 : Nat) (hB : Bk L sh_Tape k) (hB1 : Bk L sh_Game k1) (x2 : Int32) (x3 : Int32) (σ : Sg) (hf : f_X7_obeyEdge k k1 x2 x3 σ = some o) : Vx q E L 6 (some .boolean) o 0 [(0, .ref (E.2.1 (k))), (1, .ref (E.2.1 (k1))), (2, .int x2), (3, .int x3)] [] σ := by
  unfold f_X7_obeyEdge at hf
  refine v_aload_n 0 C dX7_obeyEdge_0 rfl rfl ?_
  refine v_iload_n 1 C dX7_obeyEdge_1 rfl rfl ?_
  refine v_iconst (v := 1) 2 C dX7_obeyEdge_2 (by decide) ?_
  refine v_isub 3 C dX7_obeyEdge_3 ?_
  refine v_callV (st := []) 4 C [.int (x3 - 1)] lm_X7_72 ly_X7_digitAt (hB 0 _ rfl) (by decide) dX7_obeyEdge_4 rfl (by decide) rfl (Nat.le_of_ble_eq_true rfl) (fun o1 h1 => m_X7_digitAt k hB (x3 - 1) σ o1 h1) hf (fun v1 s2 hf => ?_)
  refine v_istore (lv' := [(0, .ref (E.2.1 (k))), (1, .ref (E.2.1 (k1))), (2, .int x2), (3, .int x3), (4, .int v1)]) 7 C dX7_obeyEdge_7 (by decide) rfl rfl ?_
  refine v_aload_n 9 C dX7_obeyEdge_9 rfl rfl ?_
  refine v_getR 10 C lk_X7_9 (hB 0 _ rfl) (by decide) rfl dX7_obeyEdge_10 ?_
  refine v_iload_n 13 C dX7_obeyEdge_13 rfl rfl ?_
  refine v_iconst (v := 3) 14 C dX7_obeyEdge_14 (by decide) ?_
  refine v_isub 15 C dX7_obeyEdge_15 ?_
  refine v_cald 16 C (hB 1 _ rfl) dX7_obeyEdge_16 hf (fun v3 hf => ?_)
  refine v_bipush (v := 114) 17 C dX7_obeyEdge_17 (by decide) ?_
  refine v_icmp_ne (tgt := 26) 19 C dX7_obeyEdge_19 (by decide) hf (fun hf => ?_) (fun hf => ?_)
  · refine v_iconst (v := 2) 26 C dX7_obeyEdge_26 (by decide) ?_
    exact Vx.lv [0, 1, 2, 3, 4] rfl (k_X7_obeyEdge_b27 C k k1 hB hB1 x2 x3 v1 2 s2 hf)
  · refine v_iconst (v := 1) 22 C dX7_obeyEdge_22 (by decide) ?_
    refine v_goto (tgt := 27) 23 C dX7_obeyEdge_23 (by decide) ?_
    exact Vx.lv [0, 1, 2, 3, 4] rfl (k_X7_obeyEdge_b27 C k k1 hB hB1 x2 x3 v1 1 s2 hf)
theorem m_X7_obeyEdge {l : Launch} {E : En} {L : List Nat} (k k1 : Nat) (hB : Bk L sh_Tape k) (hB1 : Bk L sh_Game k1) (x2 : Int32) (x3 : Int32) (σ : Sg) (o : Int32 × Sg) (hf : f_X7_obeyEdge k k1 x2 x3 σ = some o) : Mi l yX7_obeyEdge cX7_obeyEdge 6 (some .boolean) (3) E L [.ref (E.2.1 (k)), .ref (E.2.1 (k1)), .int x2, .int x3] σ o :=
  Mi.of RX7 rfl (by decide) (Nat.le_of_ble_eq_true rfl) (fun q hq C => by subst hq; exact k_X7_obeyEdge_b0 C k k1 hB hB1 x2 x3 σ hf)
def f_X7_obeyColour (k k1 : Nat) (x2 : Int32) (x3 : Int32) (σ : Sg) : Rs := if x2 < (σ (k1 + 1) 2) then (p_wr σ (k1 + 1 + 4) 16 x2 x3 (fun s1 => some (1, s1))) else (some (0, σ))
set_option maxRecDepth 100000 in
set_option maxHeartbeats 4000000 in
theorem k_X7_obeyColour_b0 {q : Mc} {E : En} {L : List Nat} {o : Int32 × Sg} (C : Cx q E L cX7_obeyColour 4 RX7 (some .boolean) (1)) (k k1 : Nat) (hB : Bk L sh_Tape k) (hB1 : Bk L sh_Game k1) (x2 : Int32) (x3 : Int32) (σ : Sg) (hf : f_X7_obeyColour k k1 x2 x3 σ = some o) : Vx q E L 4 (some .boolean) o 0 [(0, .ref (E.2.1 (k))), (1, .ref (E.2.1 (k1))), (2, .int x2), (3, .int x3)] [] σ := by
  unfold f_X7_obeyColour at hf
  refine v_iload_n 0 C dX7_obeyColour_0 rfl rfl ?_
  refine v_aload_n 1 C dX7_obeyColour_1 rfl rfl ?_
  refine v_getR 2 C lk_X7_91 (hB1 0 _ rfl) (by decide) rfl dX7_obeyColour_2 ?_
  refine v_getI (dum := 0) 5 C lk_X7_112 ((hB1.sub (sh' := sh_Cut) 1 rfl) 0 _ rfl) (by decide) rfl dX7_obeyColour_5 ?_
  refine v_icmp_lt (tgt := 13) 8 C dX7_obeyColour_8 (by decide) hf (fun hf => ?_) (fun hf => ?_)
  · refine v_aload_n 13 C dX7_obeyColour_13 rfl rfl ?_
    refine v_getR 14 C lk_X7_91 (hB1 0 _ rfl) (by decide) rfl dX7_obeyColour_14 ?_
    refine v_getR 17 C lk_X7_122 ((hB1.sub (sh' := sh_Cut) 1 rfl) 0 _ rfl) (by decide) rfl dX7_obeyColour_17 ?_
    refine v_iload_n 20 C dX7_obeyColour_20 rfl rfl ?_
    refine v_iload_n 21 C dX7_obeyColour_21 rfl rfl ?_
    refine v_iast 22 C ((hB1.sub (sh' := sh_Cut) 1 rfl) 4 _ rfl) dX7_obeyColour_22 hf (fun s1 hf => ?_)
    refine v_iconst (v := 1) 23 C dX7_obeyColour_23 (by decide) ?_
    exact v_zretN 24 C rfl dX7_obeyColour_24 (by decide) hf
  · refine v_iconst (v := 0) 11 C dX7_obeyColour_11 (by decide) ?_
    exact v_zretN 12 C rfl dX7_obeyColour_12 (by decide) hf
theorem m_X7_obeyColour {l : Launch} {E : En} {L : List Nat} (k k1 : Nat) (hB : Bk L sh_Tape k) (hB1 : Bk L sh_Game k1) (x2 : Int32) (x3 : Int32) (σ : Sg) (o : Int32 × Sg) (hf : f_X7_obeyColour k k1 x2 x3 σ = some o) : Mi l yX7_obeyColour cX7_obeyColour 4 (some .boolean) (1) E L [.ref (E.2.1 (k)), .ref (E.2.1 (k1)), .int x2, .int x3] σ o :=
  Mi.of RX7 rfl (by decide) (Nat.le_of_ble_eq_true rfl) (fun q hq C => by subst hq; exact k_X7_obeyColour_b0 C k k1 hB hB1 x2 x3 σ hf)
def f_X7_obeyPerson (k k1 : Nat) (x2 : Int32) (x3 : Int32) (σ : Sg) : Rs := if x3 < 1 then (some (0, σ)) else (if (σ (k1 + 12) 0) < 6 then (p_call (f_X4_add (k1 + 12) x2 x3 σ) (fun v1 s2 => some (1, s2))) else (some (0, σ)))
set_option maxRecDepth 100000 in
set_option maxHeartbeats 4000000 in
theorem k_X7_obeyPerson_b0 {q : Mc} {E : En} {L : List Nat} {o : Int32 × Sg} (C : Cx q E L cX7_obeyPerson 4 RX7 (some .boolean) (2)) (k k1 : Nat) (hB : Bk L sh_Tape k) (hB1 : Bk L sh_Game k1) (x2 : Int32) (x3 : Int32) (σ : Sg) (hf : f_X7_obeyPerson k k1 x2 x3 σ = some o) : Vx q E L 4 (some .boolean) o 0 [(0, .ref (E.2.1 (k))), (1, .ref (E.2.1 (k1))), (2, .int x2), (3, .int x3)] [] σ := by
  unfold f_X7_obeyPerson at hf
  refine v_iload_n 0 C dX7_obeyPerson_0 rfl rfl ?_
  refine v_iconst (v := 1) 1 C dX7_obeyPerson_1 (by decide) ?_
  refine v_icmp_lt (tgt := 17) 2 C dX7_obeyPerson_2 (by decide) hf (fun hf => ?_) (fun hf => ?_)
  · refine v_iconst (v := 0) 17 C dX7_obeyPerson_17 (by decide) ?_
    exact v_zretN 18 C rfl dX7_obeyPerson_18 (by decide) hf
  · refine v_aload_n 5 C dX7_obeyPerson_5 rfl rfl ?_
    refine v_getR 6 C lk_X7_126 (hB1 0 _ rfl) (by decide) rfl dX7_obeyPerson_6 ?_
    refine v_getI (dum := 0) 9 C lk_X7_130 ((hB1.sub (sh' := sh_People) 12 rfl) 0 _ rfl) (by decide) rfl dX7_obeyPerson_9 ?_
    refine v_bipush (v := 6) 12 C dX7_obeyPerson_12 (by decide) ?_
    refine v_icmp_lt (tgt := 19) 14 C dX7_obeyPerson_14 (by decide) hf (fun hf => ?_) (fun hf => ?_)
    · refine v_aload_n 19 C dX7_obeyPerson_19 rfl rfl ?_
      refine v_getR 20 C lk_X7_126 (hB1 0 _ rfl) (by decide) rfl dX7_obeyPerson_20 ?_
      refine v_iload_n 23 C dX7_obeyPerson_23 rfl rfl ?_
      refine v_iload_n 24 C dX7_obeyPerson_24 rfl rfl ?_
      refine v_callV (st := []) 25 C [.int x2, .int x3] lm_X7_133 ly_X4_add ((hB1.sub (sh' := sh_People) 12 rfl) 0 _ rfl) (by decide) dX7_obeyPerson_25 rfl (by decide) rfl (Nat.le_of_ble_eq_true rfl) (fun o1 h1 => m_X4_add (k1 + 12) (hB1.sub (sh' := sh_People) 12 rfl) x2 x3 σ o1 h1) hf (fun v1 s2 hf => ?_)
      refine v_iconst (v := 1) 28 C dX7_obeyPerson_28 (by decide) ?_
      exact v_zretN 29 C rfl dX7_obeyPerson_29 (by decide) hf
    · refine v_iconst (v := 0) 17 C dX7_obeyPerson_17 (by decide) ?_
      exact v_zretN 18 C rfl dX7_obeyPerson_18 (by decide) hf
theorem m_X7_obeyPerson {l : Launch} {E : En} {L : List Nat} (k k1 : Nat) (hB : Bk L sh_Tape k) (hB1 : Bk L sh_Game k1) (x2 : Int32) (x3 : Int32) (σ : Sg) (o : Int32 × Sg) (hf : f_X7_obeyPerson k k1 x2 x3 σ = some o) : Mi l yX7_obeyPerson cX7_obeyPerson 4 (some .boolean) (2) E L [.ref (E.2.1 (k)), .ref (E.2.1 (k1)), .int x2, .int x3] σ o :=
  Mi.of RX7 rfl (by decide) (Nat.le_of_ble_eq_true rfl) (fun q hq C => by subst hq; exact k_X7_obeyPerson_b0 C k k1 hB hB1 x2 x3 σ hf)
def f_X7_obey (k k1 : Nat) (x2 : Int32) (x3 : Int32) (σ : Sg) : Rs := p_rd σ (k + 1) 64 x2 (fun v1 => if v1 = 99 then (p_call (f_X7_numberBetween k (x2 + 1) (x3 - 2) σ) (fun v2 s3 => p_call (f_X7_digitAt k (x3 - 1) s3) (fun v4 s5 => p_call (f_X7_obeyColour k k1 v2 v4 s5) (fun v6 s7 => p_bo v6 (some (v6, s7)))))) else (if v1 = 101 then (p_call (f_X7_numberBetween k (x2 + 1) (x3 - 3) σ) (fun v8 s9 => p_call (f_X7_obeyEdge k k1 v8 x3 s9) (fun v10 s11 => p_bo v10 (some (v10, s11))))) else (if v1 = 122 then (p_call (f_X7_digitAt k (x2 + 1) σ) (fun v12 s13 => p_call (f_X7_digitAt k (x2 + 2) s13) (fun v14 s15 => p_call (f_X7_obeySize k k1 v12 v14 s15) (fun v16 s17 => p_bo v16 (some (v16, s17)))))) else (p_rd σ (k + 1) 64 (x2 + 1) (fun v18 => p_call (f_J0_indexOf_0f7a4 5 v18 σ) (fun v19 s20 => p_call (f_X7_digitAt k (x3 - 1) s20) (fun v21 s22 => p_call (f_X7_obeyPerson k k1 v19 v21 s22) (fun v23 s24 => p_bo v23 (some (v23, s24))))))))))
set_option maxRecDepth 100000 in
set_option maxHeartbeats 4000000 in
theorem k_X7_obey_b0 {q : Mc} {E : En} {L : List Nat} {o : Int32 × Sg} (C : Cx q E L cX7_obey 5 RX7 (some .boolean) (5)) (k k1 : Nat) (hB : Bk L sh_Tape k) (hB1 : Bk L sh_Game k1) (x2 : Int32) (x3 : Int32) (σ : Sg) (hf : f_X7_obey k k1 x2 x3 σ = some o) : Vx q E L 5 (some .boolean) o 0 [(0, .ref (E.2.1 (k))), (1, .ref (E.2.1 (k1))), (2, .int x2), (3, .int x3)] [] σ := by
  unfold f_X7_obey at hf
  refine v_aload_n 0 C dX7_obey_0 rfl rfl ?_
  refine v_getR 1 C lk_X7_9 (hB 0 _ rfl) (by decide) rfl dX7_obey_1 ?_
  refine v_iload_n 4 C dX7_obey_4 rfl rfl ?_
  refine v_cald 5 C (hB 1 _ rfl) dX7_obey_5 hf (fun v1 hf => ?_)
  refine v_istore (lv' := [(0, .ref (E.2.1 (k))), (1, .ref (E.2.1 (k1))), (2, .int x2), (3, .int x3), (4, .int v1)]) 6 C dX7_obey_6 (by decide) rfl rfl ?_
  refine v_iload 8 C dX7_obey_8 rfl ?_
  refine v_case (v := 99) hf (fun hx hf => ?_) (fun hn0 hf => ?_)
  · refine v_look (off := 71) (tgt := 81) 10 C dX7_obey_10 (by decide) (by rw [hx]; try rfl) (by decide) ?_
    refine v_aload_n 81 C dX7_obey_81 rfl rfl ?_
    refine v_aload_n 82 C dX7_obey_82 rfl rfl ?_
    refine v_aload_n 83 C dX7_obey_83 rfl rfl ?_
    refine v_iload_n 84 C dX7_obey_84 rfl rfl ?_
    refine v_iconst (v := 1) 85 C dX7_obey_85 (by decide) ?_
    refine v_iadd 86 C dX7_obey_86 ?_
    refine v_iload_n 87 C dX7_obey_87 rfl rfl ?_
    refine v_iconst (v := 2) 88 C dX7_obey_88 (by decide) ?_
    refine v_isub 89 C dX7_obey_89 ?_
    refine v_callV (st := [.ref (E.2.1 (k1)), .ref (E.2.1 (k))]) 90 C [.int (x2 + 1), .int (x3 - 2)] lm_X7_78 ly_X7_numberBetween (hB 0 _ rfl) (by decide) dX7_obey_90 rfl (by decide) rfl (Nat.le_of_ble_eq_true rfl) (fun o1 h1 => m_X7_numberBetween k hB (x2 + 1) (x3 - 2) σ o1 h1) hf (fun v2 s3 hf => ?_)
    refine v_aload_n 93 C dX7_obey_93 rfl rfl ?_
    refine v_iload_n 94 C dX7_obey_94 rfl rfl ?_
    refine v_iconst (v := 1) 95 C dX7_obey_95 (by decide) ?_
    refine v_isub 96 C dX7_obey_96 ?_
    refine v_callV (st := [.int v2, .ref (E.2.1 (k1)), .ref (E.2.1 (k))]) 97 C [.int (x3 - 1)] lm_X7_72 ly_X7_digitAt (hB 0 _ rfl) (by decide) dX7_obey_97 rfl (by decide) rfl (Nat.le_of_ble_eq_true rfl) (fun o1 h1 => m_X7_digitAt k hB (x3 - 1) s3 o1 h1) hf (fun v4 s5 hf => ?_)
    refine v_callV (st := []) 100 C [.ref (E.2.1 (k1)), .int v2, .int v4] lm_X7_85 ly_X7_obeyColour (hB 0 _ rfl) (by decide) dX7_obey_100 rfl (by decide) rfl (Nat.le_of_ble_eq_true rfl) (fun o1 h1 => m_X7_obeyColour k k1 hB hB1 v2 v4 s5 o1 h1) hf (fun v6 s7 hf => ?_)
    exact v_zret 103 C rfl dX7_obey_103 hf
  refine v_case (v := 101) hf (fun hx hf => ?_) (fun hn1 hf => ?_)
  · refine v_look (off := 54) (tgt := 64) 10 C dX7_obey_10 (by decide) (by rw [hx]; try rfl) (by decide) ?_
    refine v_aload_n 64 C dX7_obey_64 rfl rfl ?_
    refine v_aload_n 65 C dX7_obey_65 rfl rfl ?_
    refine v_aload_n 66 C dX7_obey_66 rfl rfl ?_
    refine v_iload_n 67 C dX7_obey_67 rfl rfl ?_
    refine v_iconst (v := 1) 68 C dX7_obey_68 (by decide) ?_
    refine v_iadd 69 C dX7_obey_69 ?_
    refine v_iload_n 70 C dX7_obey_70 rfl rfl ?_
    refine v_iconst (v := 3) 71 C dX7_obey_71 (by decide) ?_
    refine v_isub 72 C dX7_obey_72 ?_
    refine v_callV (st := [.ref (E.2.1 (k1)), .ref (E.2.1 (k))]) 73 C [.int (x2 + 1), .int (x3 - 3)] lm_X7_78 ly_X7_numberBetween (hB 0 _ rfl) (by decide) dX7_obey_73 rfl (by decide) rfl (Nat.le_of_ble_eq_true rfl) (fun o1 h1 => m_X7_numberBetween k hB (x2 + 1) (x3 - 3) σ o1 h1) hf (fun v8 s9 hf => ?_)
    refine v_iload_n 76 C dX7_obey_76 rfl rfl ?_
    refine v_callV (st := []) 77 C [.ref (E.2.1 (k1)), .int v8, .int x3] lm_X7_82 ly_X7_obeyEdge (hB 0 _ rfl) (by decide) dX7_obey_77 rfl (by decide) rfl (Nat.le_of_ble_eq_true rfl) (fun o1 h1 => m_X7_obeyEdge k k1 hB hB1 v8 x3 s9 o1 h1) hf (fun v10 s11 hf => ?_)
    exact v_zret 80 C rfl dX7_obey_80 hf
  refine v_case (v := 122) hf (fun hx hf => ?_) (fun hn2 hf => ?_)
  · refine v_look (off := 34) (tgt := 44) 10 C dX7_obey_10 (by decide) (by rw [hx]; try rfl) (by decide) ?_
    refine v_aload_n 44 C dX7_obey_44 rfl rfl ?_
    refine v_aload_n 45 C dX7_obey_45 rfl rfl ?_
    refine v_aload_n 46 C dX7_obey_46 rfl rfl ?_
    refine v_iload_n 47 C dX7_obey_47 rfl rfl ?_
    refine v_iconst (v := 1) 48 C dX7_obey_48 (by decide) ?_
    refine v_iadd 49 C dX7_obey_49 ?_
    refine v_callV (st := [.ref (E.2.1 (k1)), .ref (E.2.1 (k))]) 50 C [.int (x2 + 1)] lm_X7_72 ly_X7_digitAt (hB 0 _ rfl) (by decide) dX7_obey_50 rfl (by decide) rfl (Nat.le_of_ble_eq_true rfl) (fun o1 h1 => m_X7_digitAt k hB (x2 + 1) σ o1 h1) hf (fun v12 s13 hf => ?_)
    refine v_aload_n 53 C dX7_obey_53 rfl rfl ?_
    refine v_iload_n 54 C dX7_obey_54 rfl rfl ?_
    refine v_iconst (v := 2) 55 C dX7_obey_55 (by decide) ?_
    refine v_iadd 56 C dX7_obey_56 ?_
    refine v_callV (st := [.int v12, .ref (E.2.1 (k1)), .ref (E.2.1 (k))]) 57 C [.int (x2 + 2)] lm_X7_72 ly_X7_digitAt (hB 0 _ rfl) (by decide) dX7_obey_57 rfl (by decide) rfl (Nat.le_of_ble_eq_true rfl) (fun o1 h1 => m_X7_digitAt k hB (x2 + 2) s13 o1 h1) hf (fun v14 s15 hf => ?_)
    refine v_callV (st := []) 60 C [.ref (E.2.1 (k1)), .int v12, .int v14] lm_X7_75 ly_X7_obeySize (hB 0 _ rfl) (by decide) dX7_obey_60 rfl (by decide) rfl (Nat.le_of_ble_eq_true rfl) (fun o1 h1 => m_X7_obeySize k k1 hB hB1 v12 v14 s15 o1 h1) hf (fun v16 s17 hf => ?_)
    exact v_zret 63 C rfl dX7_obey_63 hf
  refine v_look (off := 94) (tgt := 104) 10 C dX7_obey_10 (by decide) (by refine (lv_osw hn0 rfl).trans ?_; refine (lv_osw hn1 rfl).trans ?_; refine (lv_osw hn2 rfl).trans ?_; rfl) (by decide) ?_
  refine v_aload_n 104 C dX7_obey_104 rfl rfl ?_
  refine v_aload_n 105 C dX7_obey_105 rfl rfl ?_
  refine v_ldcS 106 C 5 (by decide) rfl rfl dX7_obey_106 ?_
  refine v_aload_n 108 C dX7_obey_108 rfl rfl ?_
  refine v_getR 109 C lk_X7_9 (hB 0 _ rfl) (by decide) rfl dX7_obey_109 ?_
  refine v_iload_n 112 C dX7_obey_112 rfl rfl ?_
  refine v_iconst (v := 1) 113 C dX7_obey_113 (by decide) ?_
  refine v_iadd 114 C dX7_obey_114 ?_
  refine v_cald 115 C (hB 1 _ rfl) dX7_obey_115 hf (fun v18 hf => ?_)
  refine v_callT (st := [.ref (E.2.1 (k1)), .ref (E.2.1 (k))]) 116 C [.int v18] lmj_X7_62 ls_J0_indexOf_0f7a4 (by decide) dX7_obey_116 rfl (by decide) rfl (Nat.le_of_ble_eq_true rfl) (fun o1 h1 => m_J0_indexOf_0f7a4 5 (by decide) v18 σ o1 h1) hf (fun v19 s20 hf => ?_)
  refine v_aload_n 119 C dX7_obey_119 rfl rfl ?_
  refine v_iload_n 120 C dX7_obey_120 rfl rfl ?_
  refine v_iconst (v := 1) 121 C dX7_obey_121 (by decide) ?_
  refine v_isub 122 C dX7_obey_122 ?_
  refine v_callV (st := [.int v19, .ref (E.2.1 (k1)), .ref (E.2.1 (k))]) 123 C [.int (x3 - 1)] lm_X7_72 ly_X7_digitAt (hB 0 _ rfl) (by decide) dX7_obey_123 rfl (by decide) rfl (Nat.le_of_ble_eq_true rfl) (fun o1 h1 => m_X7_digitAt k hB (x3 - 1) s20 o1 h1) hf (fun v21 s22 hf => ?_)
  refine v_callV (st := []) 126 C [.ref (E.2.1 (k1)), .int v19, .int v21] lm_X7_88 ly_X7_obeyPerson (hB 0 _ rfl) (by decide) dX7_obey_126 rfl (by decide) rfl (Nat.le_of_ble_eq_true rfl) (fun o1 h1 => m_X7_obeyPerson k k1 hB hB1 v19 v21 s22 o1 h1) hf (fun v23 s24 hf => ?_)
  exact v_zret 129 C rfl dX7_obey_129 hf
theorem m_X7_obey {l : Launch} {E : En} {L : List Nat} (k k1 : Nat) (hB : Bk L sh_Tape k) (hB1 : Bk L sh_Game k1) (x2 : Int32) (x3 : Int32) (σ : Sg) (o : Int32 × Sg) (hf : f_X7_obey k k1 x2 x3 σ = some o) : Mi l yX7_obey cX7_obey 5 (some .boolean) (5) E L [.ref (E.2.1 (k)), .ref (E.2.1 (k1)), .int x2, .int x3] σ o :=
  Mi.of RX7 rfl (by decide) (Nat.le_of_ble_eq_true rfl) (fun q hq C => by subst hq; exact k_X7_obey_b0 C k k1 hB hB1 x2 x3 σ hf)
def f_X7_obeyAll_b53 (k k1 : Nat) (r7 : Int32 → Int32 → Int32 → Sg → Rs) (x2 : Int32) (x3 : Int32) (x4 : Int32) (σ : Sg) : Rs := r7 x2 x3 (x4 + 1) σ
set_option maxRecDepth 100000 in
set_option maxHeartbeats 4000000 in
theorem k_X7_obeyAll_b53 {q : Mc} {E : En} {L : List Nat} {o : Int32 × Sg} (C : Cx q E L cX7_obeyAll 5 RX7 (some .int) (6)) (k k1 : Nat) (hB : Bk L sh_Tape k) (hB1 : Bk L sh_Game k1) (r7 : Int32 → Int32 → Int32 → Sg → Rs) (hr7 : ∀ (x2 : Int32) (x3 : Int32) (x4 : Int32) (σ : Sg), r7 x2 x3 x4 σ = some o → Vx q E L 5 (some .int) o 7 [(0, .ref (E.2.1 (k))), (1, .ref (E.2.1 (k1))), (2, .int x2), (3, .int x3), (4, .int x4)] [] σ) (x2 : Int32) (x3 : Int32) (x4 : Int32) (σ : Sg) (hf : f_X7_obeyAll_b53 k k1 r7 x2 x3 x4 σ = some o) : Vx q E L 5 (some .int) o 53 [(0, .ref (E.2.1 (k))), (1, .ref (E.2.1 (k1))), (2, .int x2), (3, .int x3), (4, .int x4)] [] σ := by
  unfold f_X7_obeyAll_b53 at hf
  refine v_iinc (v := x4 + 1) (lv' := [(0, .ref (E.2.1 (k))), (1, .ref (E.2.1 (k1))), (2, .int x2), (3, .int x3), (4, .int (x4 + 1))]) 53 C dX7_obeyAll_53 rfl (by rfl) (by decide) rfl rfl ?_
  refine v_goto (tgt := 7) 56 C dX7_obeyAll_56 (by decide) ?_
  exact Vx.lv [0, 1, 2, 3, 4] rfl (hr7 x2 x3 (x4 + 1) σ hf)
def f_X7_obeyAll_b7 (k k1 : Nat)  : Nat → Int32 → Int32 → Int32 → Sg → Rs
  | 0, _, _, _, _ => none
  | n + 1, x2, x3, x4, σ => if (σ (k) 1) ≤ x4 then (some (x2, σ)) else (p_rd σ (k + 1) 64 x4 (fun v1 => if v1 = 59 then (p_call (f_X7_obey k k1 x3 x4 σ) (fun v2 s3 => if v2 = 0 then (some ((-2000) - x3, s3)) else (f_X7_obeyAll_b53 k k1 (f_X7_obeyAll_b7 k k1 n) (x2 + 1) (x4 + 1) x4 s3))) else (f_X7_obeyAll_b53 k k1 (f_X7_obeyAll_b7 k k1 n) x2 x3 x4 σ)))
set_option maxRecDepth 100000 in
set_option maxHeartbeats 4000000 in
theorem k_X7_obeyAll_b7 {q : Mc} {E : En} {L : List Nat} {o : Int32 × Sg} (C : Cx q E L cX7_obeyAll 5 RX7 (some .int) (6)) (k k1 : Nat) (hB : Bk L sh_Tape k) (hB1 : Bk L sh_Game k1) (n : Nat) : ∀ (x2 : Int32) (x3 : Int32) (x4 : Int32) (σ : Sg), f_X7_obeyAll_b7 k k1 n x2 x3 x4 σ = some o → Vx q E L 5 (some .int) o 7 [(0, .ref (E.2.1 (k))), (1, .ref (E.2.1 (k1))), (2, .int x2), (3, .int x3), (4, .int x4)] [] σ := by
  induction n with
  | zero => intro x2 x3 x4 σ hf; cases (show (none : Rs) = some o from hf)
  | succ n ih =>
    intro x2 x3 x4 σ hf
    rw [f_X7_obeyAll_b7] at hf
    refine v_iload 7 C dX7_obeyAll_7 rfl ?_
    refine v_aload_n 9 C dX7_obeyAll_9 rfl rfl ?_
    refine v_getI (dum := 0) 10 C lk_X7_15 (hB 0 _ rfl) (by decide) rfl dX7_obeyAll_10 ?_
    refine v_icmp_ge (tgt := 59) 13 C dX7_obeyAll_13 (by decide) hf (fun hf => ?_) (fun hf => ?_)
    · refine v_iload_n 59 C dX7_obeyAll_59 rfl rfl ?_
      exact v_iret 60 C rfl dX7_obeyAll_60 hf
    · refine v_aload_n 16 C dX7_obeyAll_16 rfl rfl ?_
      refine v_getR 17 C lk_X7_9 (hB 0 _ rfl) (by decide) rfl dX7_obeyAll_17 ?_
      refine v_iload 20 C dX7_obeyAll_20 rfl ?_
      refine v_cald 22 C (hB 1 _ rfl) dX7_obeyAll_22 hf (fun v1 hf => ?_)
      refine v_bipush (v := 59) 23 C dX7_obeyAll_23 (by decide) ?_
      refine v_icmp_ne (tgt := 53) 25 C dX7_obeyAll_25 (by decide) hf (fun hf => ?_) (fun hf => ?_)
      · exact Vx.lv [0, 1, 2, 3, 4] rfl (k_X7_obeyAll_b53 C k k1 hB hB1 (f_X7_obeyAll_b7 k k1 n) ih x2 x3 x4 σ hf)
      · refine v_aload_n 28 C dX7_obeyAll_28 rfl rfl ?_
        refine v_aload_n 29 C dX7_obeyAll_29 rfl rfl ?_
        refine v_iload_n 30 C dX7_obeyAll_30 rfl rfl ?_
        refine v_iload 31 C dX7_obeyAll_31 rfl ?_
        refine v_callV (st := []) 33 C [.ref (E.2.1 (k1)), .int x3, .int x4] lm_X7_68 ly_X7_obey (hB 0 _ rfl) (by decide) dX7_obeyAll_33 rfl (by decide) rfl (Nat.le_of_ble_eq_true rfl) (fun o1 h1 => m_X7_obey k k1 hB hB1 x3 x4 σ o1 h1) hf (fun v2 s3 hf => ?_)
        refine v_if_ne (tgt := 45) 36 C dX7_obeyAll_36 (by decide) hf (fun hf => ?_) (fun hf => ?_)
        · refine v_iinc (v := x2 + 1) (lv' := [(0, .ref (E.2.1 (k))), (1, .ref (E.2.1 (k1))), (2, .int (x2 + 1)), (3, .int x3), (4, .int x4)]) 45 C dX7_obeyAll_45 rfl (by rfl) (by decide) rfl rfl ?_
          refine v_iload 48 C dX7_obeyAll_48 rfl ?_
          refine v_iconst (v := 1) 50 C dX7_obeyAll_50 (by decide) ?_
          refine v_iadd 51 C dX7_obeyAll_51 ?_
          refine v_istore_n (lv' := [(0, .ref (E.2.1 (k))), (1, .ref (E.2.1 (k1))), (2, .int (x2 + 1)), (3, .int (x4 + 1)), (4, .int x4)]) 52 C dX7_obeyAll_52 rfl (by decide) rfl rfl ?_
          exact Vx.lv [0, 1, 2, 3, 4] rfl (k_X7_obeyAll_b53 C k k1 hB hB1 (f_X7_obeyAll_b7 k k1 n) ih (x2 + 1) (x4 + 1) x4 s3 hf)
        · refine v_sipush (v := (-2000)) 39 C dX7_obeyAll_39 (by decide) ?_
          refine v_iload_n 42 C dX7_obeyAll_42 rfl rfl ?_
          refine v_isub 43 C dX7_obeyAll_43 ?_
          exact v_iret 44 C rfl dX7_obeyAll_44 hf
def f_X7_obeyAll (k k1 : Nat) (σ : Sg) : Rs := f_X7_obeyAll_b7 k k1 fu 0 0 0 σ
set_option maxRecDepth 100000 in
set_option maxHeartbeats 4000000 in
theorem k_X7_obeyAll_b0 {q : Mc} {E : En} {L : List Nat} {o : Int32 × Sg} (C : Cx q E L cX7_obeyAll 5 RX7 (some .int) (6)) (k k1 : Nat) (hB : Bk L sh_Tape k) (hB1 : Bk L sh_Game k1) (σ : Sg) (hf : f_X7_obeyAll k k1 σ = some o) : Vx q E L 5 (some .int) o 0 [(0, .ref (E.2.1 (k))), (1, .ref (E.2.1 (k1)))] [] σ := by
  unfold f_X7_obeyAll at hf
  refine v_iconst (v := 0) 0 C dX7_obeyAll_0 (by decide) ?_
  refine v_istore_n (lv' := [(0, .ref (E.2.1 (k))), (1, .ref (E.2.1 (k1))), (2, .int 0)]) 1 C dX7_obeyAll_1 rfl (by decide) rfl rfl ?_
  refine v_iconst (v := 0) 2 C dX7_obeyAll_2 (by decide) ?_
  refine v_istore_n (lv' := [(0, .ref (E.2.1 (k))), (1, .ref (E.2.1 (k1))), (2, .int 0), (3, .int 0)]) 3 C dX7_obeyAll_3 rfl (by decide) rfl rfl ?_
  refine v_iconst (v := 0) 4 C dX7_obeyAll_4 (by decide) ?_
  refine v_istore (lv' := [(0, .ref (E.2.1 (k))), (1, .ref (E.2.1 (k1))), (2, .int 0), (3, .int 0), (4, .int 0)]) 5 C dX7_obeyAll_5 (by decide) rfl rfl ?_
  exact Vx.lv [0, 1, 2, 3, 4] rfl (k_X7_obeyAll_b7 C k k1 hB hB1 fu 0 0 0 σ hf)
theorem m_X7_obeyAll {l : Launch} {E : En} {L : List Nat} (k k1 : Nat) (hB : Bk L sh_Tape k) (hB1 : Bk L sh_Game k1) (σ : Sg) (o : Int32 × Sg) (hf : f_X7_obeyAll k k1 σ = some o) : Mi l yX7_obeyAll cX7_obeyAll 5 (some .int) (6) E L [.ref (E.2.1 (k)), .ref (E.2.1 (k1))] σ o :=
  Mi.of RX7 rfl (by decide) (Nat.le_of_ble_eq_true rfl) (fun q hq C => by subst hq; exact k_X7_obeyAll_b0 C k k1 hB hB1  σ hf)
def f_X7_readInto_b50 (k k1 : Nat) (σ : Sg) : Rs := if (σ (k) 3) = 0 then (p_call (f_X7_obeyAll k k1 σ) (fun v1 s2 => some (v1, s2))) else (some ((-1000) - (σ (k) 2), σ))
set_option maxRecDepth 100000 in
set_option maxHeartbeats 4000000 in
theorem k_X7_readInto_b50 {q : Mc} {E : En} {L : List Nat} {o : Int32 × Sg} (C : Cx q E L cX7_readInto 3 RX7 (some .int) (9)) (k k1 : Nat) (hB : Bk L sh_Tape k) (hB1 : Bk L sh_Game k1) (σ : Sg) (hf : f_X7_readInto_b50 k k1 σ = some o) : Vx q E L 3 (some .int) o 50 [(0, .ref (E.2.1 (k))), (1, .ref (E.2.1 (k1)))] [] σ := by
  unfold f_X7_readInto_b50 at hf
  refine v_aload_n 50 C dX7_readInto_50 rfl rfl ?_
  refine v_getI (dum := 0) 51 C lk_X7_24 (hB 0 _ rfl) (by decide) rfl dX7_readInto_51 ?_
  refine v_if_eq (tgt := 68) 54 C dX7_readInto_54 (by decide) hf (fun hf => ?_) (fun hf => ?_)
  · refine v_aload_n 68 C dX7_readInto_68 rfl rfl ?_
    refine v_aload_n 69 C dX7_readInto_69 rfl rfl ?_
    refine v_callV (st := []) 70 C [.ref (E.2.1 (k1))] lm_X7_31 ly_X7_obeyAll (hB 0 _ rfl) (by decide) dX7_readInto_70 rfl (by decide) rfl (Nat.le_of_ble_eq_true rfl) (fun o1 h1 => m_X7_obeyAll k k1 hB hB1  σ o1 h1) hf (fun v1 s2 hf => ?_)
    exact v_iret 73 C rfl dX7_readInto_73 hf
  · refine v_sipush (v := (-1000)) 57 C dX7_readInto_57 (by decide) ?_
    refine v_aload_n 60 C dX7_readInto_60 rfl rfl ?_
    refine v_getI (dum := 0) 61 C lk_X7_21 (hB 0 _ rfl) (by decide) rfl dX7_readInto_61 ?_
    refine v_isub 64 C dX7_readInto_64 ?_
    refine v_goto (tgt := 73) 65 C dX7_readInto_65 (by decide) ?_
    exact v_iret 73 C rfl dX7_readInto_73 hf
def f_X7_readInto_b16 (k k1 : Nat)  : Nat → Int32 → Sg → Rs
  | 0, _, _ => none
  | n + 1, x2, σ => if 64 ≤ x2 then (f_X7_readInto_b50 k k1 σ) else (if (σ (k) 3) = 0 then (if (σ (k) 1) ≤ (σ (k) 2) then (f_X7_readInto_b50 k k1 σ) else (p_call (f_X7_passStatement k σ) (fun v1 s2 => f_X7_readInto_b16 k k1 n (x2 + 1) s2))) else (f_X7_readInto_b50 k k1 σ))
set_option maxRecDepth 100000 in
set_option maxHeartbeats 4000000 in
theorem k_X7_readInto_b16 {q : Mc} {E : En} {L : List Nat} {o : Int32 × Sg} (C : Cx q E L cX7_readInto 3 RX7 (some .int) (9)) (k k1 : Nat) (hB : Bk L sh_Tape k) (hB1 : Bk L sh_Game k1) (n : Nat) : ∀ (x2 : Int32) (σ : Sg), f_X7_readInto_b16 k k1 n x2 σ = some o → Vx q E L 3 (some .int) o 16 [(0, .ref (E.2.1 (k))), (1, .ref (E.2.1 (k1))), (2, .int x2)] [] σ := by
  induction n with
  | zero => intro x2 σ hf; cases (show (none : Rs) = some o from hf)
  | succ n ih =>
    intro x2 σ hf
    rw [f_X7_readInto_b16] at hf
    refine v_iload_n 16 C dX7_readInto_16 rfl rfl ?_
    refine v_bipush (v := 64) 17 C dX7_readInto_17 (by decide) ?_
    refine v_icmp_ge (tgt := 50) 19 C dX7_readInto_19 (by decide) hf (fun hf => ?_) (fun hf => ?_)
    · exact Vx.lv [0, 1] rfl (k_X7_readInto_b50 C k k1 hB hB1 σ hf)
    · refine v_aload_n 22 C dX7_readInto_22 rfl rfl ?_
      refine v_getI (dum := 0) 23 C lk_X7_24 (hB 0 _ rfl) (by decide) rfl dX7_readInto_23 ?_
      refine v_if_ne (tgt := 50) 26 C dX7_readInto_26 (by decide) hf (fun hf => ?_) (fun hf => ?_)
      · exact Vx.lv [0, 1] rfl (k_X7_readInto_b50 C k k1 hB hB1 σ hf)
      · refine v_aload_n 29 C dX7_readInto_29 rfl rfl ?_
        refine v_getI (dum := 0) 30 C lk_X7_21 (hB 0 _ rfl) (by decide) rfl dX7_readInto_30 ?_
        refine v_aload_n 33 C dX7_readInto_33 rfl rfl ?_
        refine v_getI (dum := 0) 34 C lk_X7_15 (hB 0 _ rfl) (by decide) rfl dX7_readInto_34 ?_
        refine v_icmp_ge (tgt := 50) 37 C dX7_readInto_37 (by decide) hf (fun hf => ?_) (fun hf => ?_)
        · exact Vx.lv [0, 1] rfl (k_X7_readInto_b50 C k k1 hB hB1 σ hf)
        · refine v_aload_n 40 C dX7_readInto_40 rfl rfl ?_
          refine v_callV (st := []) 41 C [] lm_X7_28 ly_X7_passStatement (hB 0 _ rfl) (by decide) dX7_readInto_41 rfl (by decide) rfl (Nat.le_of_ble_eq_true rfl) (fun o1 h1 => m_X7_passStatement k hB  σ o1 h1) hf (fun v1 s2 hf => ?_)
          refine v_iinc (v := x2 + 1) (lv' := [(0, .ref (E.2.1 (k))), (1, .ref (E.2.1 (k1))), (2, .int (x2 + 1))]) 44 C dX7_readInto_44 rfl (by rfl) (by decide) rfl rfl ?_
          refine v_goto (tgt := 16) 47 C dX7_readInto_47 (by decide) ?_
          exact Vx.lv [0, 1, 2] rfl (ih (x2 + 1) s2 hf)
def f_X7_readInto (k k1 : Nat) (σ : Sg) : Rs := p_put σ (k) 2 0 (fun s1 => p_bo 0 (p_put s1 (k) 3 0 (fun s2 => p_call (f_X7_passStatement k s2) (fun v3 s4 => f_X7_readInto_b16 k k1 fu 0 s4))))
set_option maxRecDepth 100000 in
set_option maxHeartbeats 4000000 in
theorem k_X7_readInto_b0 {q : Mc} {E : En} {L : List Nat} {o : Int32 × Sg} (C : Cx q E L cX7_readInto 3 RX7 (some .int) (9)) (k k1 : Nat) (hB : Bk L sh_Tape k) (hB1 : Bk L sh_Game k1) (σ : Sg) (hf : f_X7_readInto k k1 σ = some o) : Vx q E L 3 (some .int) o 0 [(0, .ref (E.2.1 (k))), (1, .ref (E.2.1 (k1)))] [] σ := by
  unfold f_X7_readInto at hf
  refine v_aload_n 0 C dX7_readInto_0 rfl rfl ?_
  refine v_iconst (v := 0) 1 C dX7_readInto_1 (by decide) ?_
  refine v_putI 2 C lp_X7_21 (hB 0 _ rfl) (by decide) rfl dX7_readInto_2 hf (fun s1 hf => ?_)
  refine v_aload_n 5 C dX7_readInto_5 rfl rfl ?_
  refine v_iconst (v := 0) 6 C dX7_readInto_6 (by decide) ?_
  refine v_putZ 7 C lp_X7_24 (hB 0 _ rfl) (by decide) rfl dX7_readInto_7 hf (fun s2 hf => ?_)
  refine v_aload_n 10 C dX7_readInto_10 rfl rfl ?_
  refine v_callV (st := []) 11 C [] lm_X7_28 ly_X7_passStatement (hB 0 _ rfl) (by decide) dX7_readInto_11 rfl (by decide) rfl (Nat.le_of_ble_eq_true rfl) (fun o1 h1 => m_X7_passStatement k hB  s2 o1 h1) hf (fun v3 s4 hf => ?_)
  refine v_iconst (v := 0) 14 C dX7_readInto_14 (by decide) ?_
  refine v_istore_n (lv' := [(0, .ref (E.2.1 (k))), (1, .ref (E.2.1 (k1))), (2, .int 0)]) 15 C dX7_readInto_15 rfl (by decide) rfl rfl ?_
  exact Vx.lv [0, 1, 2] rfl (k_X7_readInto_b16 C k k1 hB hB1 fu 0 s4 hf)
theorem m_X7_readInto {l : Launch} {E : En} {L : List Nat} (k k1 : Nat) (hB : Bk L sh_Tape k) (hB1 : Bk L sh_Game k1) (σ : Sg) (o : Int32 × Sg) (hf : f_X7_readInto k k1 σ = some o) : Mi l yX7_readInto cX7_readInto 3 (some .int) (9) E L [.ref (E.2.1 (k)), .ref (E.2.1 (k1))] σ o :=
  Mi.of RX7 rfl (by decide) (Nat.le_of_ble_eq_true rfl) (fun q hq C => by subst hq; exact k_X7_readInto_b0 C k k1 hB hB1  σ hf)
