/-! printed by wip/whole/gen/gen.py: methods as pure functions, and that the machine does them -/
def f_X4_add (k : Nat) (x1 : Int32) (x2 : Int32) (σ : Sg) : Rs := p_wr σ (k + 1) 6 (σ (k) 0) x1 (fun s1 => p_wr s1 (k + 2) 6 (s1 (k) 0) x2 (fun s2 => p_wr s2 (k + 3) 6 (s2 (k) 0) 0 (fun s3 => p_put s3 (k) 0 ((s3 (k) 0) + 1) (fun s4 => some (0, s4)))))
set_option maxRecDepth 100000 in
set_option maxHeartbeats 4000000 in
theorem k_X4_add_b0 {q : Mc} {E : En} {L : List Nat} {o : Int32 × Sg} (C : Cx q E L cX4_add 3 RX4 none (1)) (k : Nat) (hB : Bk L sh_People k) (x1 : Int32) (x2 : Int32) (σ : Sg) (hf : f_X4_add k x1 x2 σ = some o) : Vx q E L 3 none o 0 [(0, .ref (E.2.1 (k))), (1, .int x1), (2, .int x2)] [] σ := by
  unfold f_X4_add at hf
  refine v_aload_n 0 C dX4_add_0 rfl rfl ?_
  refine v_getR 1 C lk_X4_9 (hB 0 _ rfl) (by decide) rfl dX4_add_1 ?_
  refine v_aload_n 4 C dX4_add_4 rfl rfl ?_
  refine v_getI (dum := 0) 5 C lk_X4_21 (hB 0 _ rfl) (by decide) rfl dX4_add_5 ?_
  refine v_iload_n 8 C dX4_add_8 rfl rfl ?_
  refine v_iast 9 C (hB 1 _ rfl) dX4_add_9 hf (fun s1 hf => ?_)
  refine v_aload_n 10 C dX4_add_10 rfl rfl ?_
  refine v_getR 11 C lk_X4_15 (hB 0 _ rfl) (by decide) rfl dX4_add_11 ?_
  refine v_aload_n 14 C dX4_add_14 rfl rfl ?_
  refine v_getI (dum := 0) 15 C lk_X4_21 (hB 0 _ rfl) (by decide) rfl dX4_add_15 ?_
  refine v_iload_n 18 C dX4_add_18 rfl rfl ?_
  refine v_iast 19 C (hB 2 _ rfl) dX4_add_19 hf (fun s2 hf => ?_)
  refine v_aload_n 20 C dX4_add_20 rfl rfl ?_
  refine v_getR 21 C lk_X4_18 (hB 0 _ rfl) (by decide) rfl dX4_add_21 ?_
  refine v_aload_n 24 C dX4_add_24 rfl rfl ?_
  refine v_getI (dum := 0) 25 C lk_X4_21 (hB 0 _ rfl) (by decide) rfl dX4_add_25 ?_
  refine v_iconst (v := 0) 28 C dX4_add_28 (by decide) ?_
  refine v_iast 29 C (hB 3 _ rfl) dX4_add_29 hf (fun s3 hf => ?_)
  refine v_aload_n 30 C dX4_add_30 rfl rfl ?_
  refine v_dup 31 C dX4_add_31 rfl ?_
  refine v_getI (dum := 0) 32 C lk_X4_21 (hB 0 _ rfl) (by decide) rfl dX4_add_32 ?_
  refine v_iconst (v := 1) 35 C dX4_add_35 (by decide) ?_
  refine v_iadd 36 C dX4_add_36 ?_
  refine v_putI 37 C lp_X4_21 (hB 0 _ rfl) (by decide) rfl dX4_add_37 hf (fun s4 hf => ?_)
  exact v_ret (r := 0) 40 C rfl dX4_add_40 hf
theorem m_X4_add {l : Launch} {E : En} {L : List Nat} (k : Nat) (hB : Bk L sh_People k) (x1 : Int32) (x2 : Int32) (σ : Sg) (o : Int32 × Sg) (hf : f_X4_add k x1 x2 σ = some o) : Mi l yX4_add cX4_add 3 none (1) E L [.ref (E.2.1 (k)), .int x1, .int x2] σ o :=
  Mi.of RX4 rfl (by decide) (Nat.le_of_ble_eq_true rfl) (fun q hq C => by subst hq; exact k_X4_add_b0 C k hB x1 x2 σ hf)
def f_X4_spentByAll_b4 (k : Nat)  : Nat → Int32 → Int32 → Sg → Rs
  | 0, _, _, _ => none
  | n + 1, x1, x2, σ => if (σ (k) 0) ≤ x2 then (some (x1, σ)) else (p_rd σ (k + 3) 6 x2 (fun v1 => f_X4_spentByAll_b4 k n (x1 + v1) (x2 + 1) σ))
set_option maxRecDepth 100000 in
set_option maxHeartbeats 4000000 in
theorem k_X4_spentByAll_b4 {q : Mc} {E : En} {L : List Nat} {o : Int32 × Sg} (C : Cx q E L cX4_spentByAll 3 RX4 (some .int) (1)) (k : Nat) (hB : Bk L sh_People k) (n : Nat) : ∀ (x1 : Int32) (x2 : Int32) (σ : Sg), f_X4_spentByAll_b4 k n x1 x2 σ = some o → Vx q E L 3 (some .int) o 4 [(0, .ref (E.2.1 (k))), (1, .int x1), (2, .int x2)] [] σ := by
  induction n with
  | zero => intro x1 x2 σ hf; cases (show (none : Rs) = some o from hf)
  | succ n ih =>
    intro x1 x2 σ hf
    rw [f_X4_spentByAll_b4] at hf
    refine v_iload_n 4 C dX4_spentByAll_4 rfl rfl ?_
    refine v_aload_n 5 C dX4_spentByAll_5 rfl rfl ?_
    refine v_getI (dum := 0) 6 C lk_X4_21 (hB 0 _ rfl) (by decide) rfl dX4_spentByAll_6 ?_
    refine v_icmp_ge (tgt := 27) 9 C dX4_spentByAll_9 (by decide) hf (fun hf => ?_) (fun hf => ?_)
    · refine v_iload_n 27 C dX4_spentByAll_27 rfl rfl ?_
      exact v_iret 28 C rfl dX4_spentByAll_28 hf
    · refine v_iload_n 12 C dX4_spentByAll_12 rfl rfl ?_
      refine v_aload_n 13 C dX4_spentByAll_13 rfl rfl ?_
      refine v_getR 14 C lk_X4_18 (hB 0 _ rfl) (by decide) rfl dX4_spentByAll_14 ?_
      refine v_iload_n 17 C dX4_spentByAll_17 rfl rfl ?_
      refine v_iald 18 C (hB 3 _ rfl) dX4_spentByAll_18 hf (fun v1 hf => ?_)
      refine v_iadd 19 C dX4_spentByAll_19 ?_
      refine v_istore_n (lv' := [(0, .ref (E.2.1 (k))), (1, .int (x1 + v1)), (2, .int x2)]) 20 C dX4_spentByAll_20 rfl (by decide) rfl rfl ?_
      refine v_iinc (v := x2 + 1) (lv' := [(0, .ref (E.2.1 (k))), (1, .int (x1 + v1)), (2, .int (x2 + 1))]) 21 C dX4_spentByAll_21 rfl (by rfl) (by decide) rfl rfl ?_
      refine v_goto (tgt := 4) 24 C dX4_spentByAll_24 (by decide) ?_
      exact Vx.lv [0, 1, 2] rfl (ih (x1 + v1) (x2 + 1) σ hf)
def f_X4_spentByAll (k : Nat) (σ : Sg) : Rs := f_X4_spentByAll_b4 k fu 0 0 σ
set_option maxRecDepth 100000 in
set_option maxHeartbeats 4000000 in
theorem k_X4_spentByAll_b0 {q : Mc} {E : En} {L : List Nat} {o : Int32 × Sg} (C : Cx q E L cX4_spentByAll 3 RX4 (some .int) (1)) (k : Nat) (hB : Bk L sh_People k) (σ : Sg) (hf : f_X4_spentByAll k σ = some o) : Vx q E L 3 (some .int) o 0 [(0, .ref (E.2.1 (k)))] [] σ := by
  unfold f_X4_spentByAll at hf
  refine v_iconst (v := 0) 0 C dX4_spentByAll_0 (by decide) ?_
  refine v_istore_n (lv' := [(0, .ref (E.2.1 (k))), (1, .int 0)]) 1 C dX4_spentByAll_1 rfl (by decide) rfl rfl ?_
  refine v_iconst (v := 0) 2 C dX4_spentByAll_2 (by decide) ?_
  refine v_istore_n (lv' := [(0, .ref (E.2.1 (k))), (1, .int 0), (2, .int 0)]) 3 C dX4_spentByAll_3 rfl (by decide) rfl rfl ?_
  exact Vx.lv [0, 1, 2] rfl (k_X4_spentByAll_b4 C k hB fu 0 0 σ hf)
theorem m_X4_spentByAll {l : Launch} {E : En} {L : List Nat} (k : Nat) (hB : Bk L sh_People k) (σ : Sg) (o : Int32 × Sg) (hf : f_X4_spentByAll k σ = some o) : Mi l yX4_spentByAll cX4_spentByAll 3 (some .int) (1) E L [.ref (E.2.1 (k))] σ o :=
  Mi.of RX4 rfl (by decide) (Nat.le_of_ble_eq_true rfl) (fun q hq C => by subst hq; exact k_X4_spentByAll_b0 C k hB  σ hf)
def f_X4_commonDivisor_b7  : Nat → Int32 → Int32 → Int32 → Sg → Rs
  | 0, _, _, _, _ => none
  | n + 1, x2, x3, x4, σ => if 100 ≤ x4 then (some (x3, σ)) else (if x2 = 0 then (some (x3, σ)) else (p_nz x2 (f_X4_commonDivisor_b7 n (x3 - x3 / x2 * x2) x2 (x4 + 1) σ)))
set_option maxRecDepth 100000 in
set_option maxHeartbeats 4000000 in
theorem k_X4_commonDivisor_b7 {q : Mc} {E : En} {L : List Nat} {o : Int32 × Sg} (C : Cx q E L cX4_commonDivisor 6 RX4 (some .int) (1)) (n : Nat) : ∀ (x2 : Int32) (x3 : Int32) (x4 : Int32) (σ : Sg), f_X4_commonDivisor_b7 n x2 x3 x4 σ = some o → Vx q E L 6 (some .int) o 7 [(2, .int x2), (3, .int x3), (4, .int x4)] [] σ := by
  induction n with
  | zero => intro x2 x3 x4 σ hf; cases (show (none : Rs) = some o from hf)
  | succ n ih =>
    intro x2 x3 x4 σ hf
    rw [f_X4_commonDivisor_b7] at hf
    refine v_iload 7 C dX4_commonDivisor_7 rfl ?_
    refine v_bipush (v := 100) 9 C dX4_commonDivisor_9 (by decide) ?_
    refine v_icmp_ge (tgt := 34) 11 C dX4_commonDivisor_11 (by decide) hf (fun hf => ?_) (fun hf => ?_)
    · refine v_iload_n 34 C dX4_commonDivisor_34 rfl rfl ?_
      exact v_iret 35 C rfl dX4_commonDivisor_35 hf
    · refine v_iload_n 14 C dX4_commonDivisor_14 rfl rfl ?_
      refine v_if_eq (tgt := 34) 15 C dX4_commonDivisor_15 (by decide) hf (fun hf => ?_) (fun hf => ?_)
      · refine v_iload_n 34 C dX4_commonDivisor_34 rfl rfl ?_
        exact v_iret 35 C rfl dX4_commonDivisor_35 hf
      · refine v_iload_n 18 C dX4_commonDivisor_18 rfl rfl ?_
        refine v_iload_n 19 C dX4_commonDivisor_19 rfl rfl ?_
        refine v_irem 20 C dX4_commonDivisor_20 hf (fun hf => ?_)
        refine v_istore (lv' := [(2, .int x2), (3, .int x3), (4, .int x4), (5, .int (x3 - x3 / x2 * x2))]) 21 C dX4_commonDivisor_21 (by decide) rfl rfl ?_
        refine v_iload_n 23 C dX4_commonDivisor_23 rfl rfl ?_
        refine v_istore_n (lv' := [(2, .int x2), (3, .int x2), (4, .int x4), (5, .int (x3 - x3 / x2 * x2))]) 24 C dX4_commonDivisor_24 rfl (by decide) rfl rfl ?_
        refine v_iload 25 C dX4_commonDivisor_25 rfl ?_
        refine v_istore_n (lv' := [(2, .int (x3 - x3 / x2 * x2)), (3, .int x2), (4, .int x4), (5, .int (x3 - x3 / x2 * x2))]) 27 C dX4_commonDivisor_27 rfl (by decide) rfl rfl ?_
        refine v_iinc (v := x4 + 1) (lv' := [(2, .int (x3 - x3 / x2 * x2)), (3, .int x2), (4, .int (x4 + 1)), (5, .int (x3 - x3 / x2 * x2))]) 28 C dX4_commonDivisor_28 rfl (by rfl) (by decide) rfl rfl ?_
        refine v_goto (tgt := 7) 31 C dX4_commonDivisor_31 (by decide) ?_
        exact Vx.lv [0, 1, 2] rfl (ih (x3 - x3 / x2 * x2) x2 (x4 + 1) σ hf)
def f_X4_commonDivisor (x0 : Int32) (x1 : Int32) (σ : Sg) : Rs := f_X4_commonDivisor_b7 fu x0 x1 0 σ
set_option maxRecDepth 100000 in
set_option maxHeartbeats 4000000 in
theorem k_X4_commonDivisor_b0 {q : Mc} {E : En} {L : List Nat} {o : Int32 × Sg} (C : Cx q E L cX4_commonDivisor 6 RX4 (some .int) (1)) (x0 : Int32) (x1 : Int32) (σ : Sg) (hf : f_X4_commonDivisor x0 x1 σ = some o) : Vx q E L 6 (some .int) o 0 [(0, .int x0), (1, .int x1)] [] σ := by
  unfold f_X4_commonDivisor at hf
  refine v_iload_n 0 C dX4_commonDivisor_0 rfl rfl ?_
  refine v_istore_n (lv' := [(0, .int x0), (1, .int x1), (2, .int x0)]) 1 C dX4_commonDivisor_1 rfl (by decide) rfl rfl ?_
  refine v_iload_n 2 C dX4_commonDivisor_2 rfl rfl ?_
  refine v_istore_n (lv' := [(0, .int x0), (1, .int x1), (2, .int x0), (3, .int x1)]) 3 C dX4_commonDivisor_3 rfl (by decide) rfl rfl ?_
  refine v_iconst (v := 0) 4 C dX4_commonDivisor_4 (by decide) ?_
  refine v_istore (lv' := [(0, .int x0), (1, .int x1), (2, .int x0), (3, .int x1), (4, .int 0)]) 5 C dX4_commonDivisor_5 (by decide) rfl rfl ?_
  exact Vx.lv [2, 3, 4] rfl (k_X4_commonDivisor_b7 C fu x0 x1 0 σ hf)
theorem m_X4_commonDivisor {l : Launch} {E : En} {L : List Nat} (x0 : Int32) (x1 : Int32) (σ : Sg) (o : Int32 × Sg) (hf : f_X4_commonDivisor x0 x1 σ = some o) : Mi l yX4_commonDivisor cX4_commonDivisor 6 (some .int) (1) E L [.int x0, .int x1] σ o :=
  Mi.of RX4 rfl (by decide) (Nat.le_of_ble_eq_true rfl) (fun q hq C => by subst hq; exact k_X4_commonDivisor_b0 C   x0 x1 σ hf)
def f_X4_copyFrom (k k1 : Nat) (σ : Sg) : Rs := p_put σ (k) 0 (σ (k1) 0) (fun s1 => p_cpy s1 (k1 + 1) 6 (k + 1) 6 0 0 6 (fun s2 => p_cpy s2 (k1 + 2) 6 (k + 2) 6 0 0 6 (fun s3 => p_cpy s3 (k1 + 3) 6 (k + 3) 6 0 0 6 (fun s4 => some (0, s4)))))
set_option maxRecDepth 100000 in
set_option maxHeartbeats 4000000 in
theorem k_X4_copyFrom_b0 {q : Mc} {E : En} {L : List Nat} {o : Int32 × Sg} (C : Cx q E L cX4_copyFrom 2 RX4 none (1)) (k k1 : Nat) (hB : Bk L sh_People k) (hB1 : Bk L sh_People k1) (σ : Sg) (hf : f_X4_copyFrom k k1 σ = some o) : Vx q E L 2 none o 0 [(0, .ref (E.2.1 (k))), (1, .ref (E.2.1 (k1)))] [] σ := by
  unfold f_X4_copyFrom at hf
  refine v_aload_n 0 C dX4_copyFrom_0 rfl rfl ?_
  refine v_aload_n 1 C dX4_copyFrom_1 rfl rfl ?_
  refine v_getI (dum := 0) 2 C lk_X4_21 (hB1 0 _ rfl) (by decide) rfl dX4_copyFrom_2 ?_
  refine v_putI 5 C lp_X4_21 (hB 0 _ rfl) (by decide) rfl dX4_copyFrom_5 hf (fun s1 hf => ?_)
  refine v_aload_n 8 C dX4_copyFrom_8 rfl rfl ?_
  refine v_getR 9 C lk_X4_9 (hB1 0 _ rfl) (by decide) rfl dX4_copyFrom_9 ?_
  refine v_iconst (v := 0) 12 C dX4_copyFrom_12 (by decide) ?_
  refine v_aload_n 13 C dX4_copyFrom_13 rfl rfl ?_
  refine v_getR 14 C lk_X4_9 (hB 0 _ rfl) (by decide) rfl dX4_copyFrom_14 ?_
  refine v_iconst (v := 0) 17 C dX4_copyFrom_17 (by decide) ?_
  refine v_aload_n 18 C dX4_copyFrom_18 rfl rfl ?_
  refine v_getR 19 C lk_X4_9 (hB 0 _ rfl) (by decide) rfl dX4_copyFrom_19 ?_
  refine v_alen (v := 6) 22 C (hB 1 _ rfl) (Or.inl rfl) rfl dX4_copyFrom_22 ?_
  refine v_copyi 23 C lmc_X4_25 lcp (by decide) (Nat.le_of_ble_eq_true rfl) (hB1 1 _ rfl) (hB 1 _ rfl) dX4_copyFrom_23 hf (fun s2 hf => ?_)
  refine v_aload_n 26 C dX4_copyFrom_26 rfl rfl ?_
  refine v_getR 27 C lk_X4_15 (hB1 0 _ rfl) (by decide) rfl dX4_copyFrom_27 ?_
  refine v_iconst (v := 0) 30 C dX4_copyFrom_30 (by decide) ?_
  refine v_aload_n 31 C dX4_copyFrom_31 rfl rfl ?_
  refine v_getR 32 C lk_X4_15 (hB 0 _ rfl) (by decide) rfl dX4_copyFrom_32 ?_
  refine v_iconst (v := 0) 35 C dX4_copyFrom_35 (by decide) ?_
  refine v_aload_n 36 C dX4_copyFrom_36 rfl rfl ?_
  refine v_getR 37 C lk_X4_15 (hB 0 _ rfl) (by decide) rfl dX4_copyFrom_37 ?_
  refine v_alen (v := 6) 40 C (hB 2 _ rfl) (Or.inl rfl) rfl dX4_copyFrom_40 ?_
  refine v_copyi 41 C lmc_X4_25 lcp (by decide) (Nat.le_of_ble_eq_true rfl) (hB1 2 _ rfl) (hB 2 _ rfl) dX4_copyFrom_41 hf (fun s3 hf => ?_)
  refine v_aload_n 44 C dX4_copyFrom_44 rfl rfl ?_
  refine v_getR 45 C lk_X4_18 (hB1 0 _ rfl) (by decide) rfl dX4_copyFrom_45 ?_
  refine v_iconst (v := 0) 48 C dX4_copyFrom_48 (by decide) ?_
  refine v_aload_n 49 C dX4_copyFrom_49 rfl rfl ?_
  refine v_getR 50 C lk_X4_18 (hB 0 _ rfl) (by decide) rfl dX4_copyFrom_50 ?_
  refine v_iconst (v := 0) 53 C dX4_copyFrom_53 (by decide) ?_
  refine v_aload_n 54 C dX4_copyFrom_54 rfl rfl ?_
  refine v_getR 55 C lk_X4_18 (hB 0 _ rfl) (by decide) rfl dX4_copyFrom_55 ?_
  refine v_alen (v := 6) 58 C (hB 3 _ rfl) (Or.inl rfl) rfl dX4_copyFrom_58 ?_
  refine v_copyi 59 C lmc_X4_25 lcp (by decide) (Nat.le_of_ble_eq_true rfl) (hB1 3 _ rfl) (hB 3 _ rfl) dX4_copyFrom_59 hf (fun s4 hf => ?_)
  exact v_ret (r := 0) 62 C rfl dX4_copyFrom_62 hf
theorem m_X4_copyFrom {l : Launch} {E : En} {L : List Nat} (k k1 : Nat) (hB : Bk L sh_People k) (hB1 : Bk L sh_People k1) (σ : Sg) (o : Int32 × Sg) (hf : f_X4_copyFrom k k1 σ = some o) : Mi l yX4_copyFrom cX4_copyFrom 2 none (1) E L [.ref (E.2.1 (k)), .ref (E.2.1 (k1))] σ o :=
  Mi.of RX4 rfl (by decide) (Nat.le_of_ble_eq_true rfl) (fun q hq C => by subst hq; exact k_X4_copyFrom_b0 C k k1 hB hB1  σ hf)
def f_X3_costByColour (k : Nat) (x1 : Int32) (x2 : Int32) (x3 : Int32) (σ : Sg) : Rs := p_rd σ (k + 1 + 4) 16 x2 (fun v1 => p_rd σ (k + 1 + 4) 16 x3 (fun v2 => if v1 = v2 then (some ((x1 + 1) / 2, σ)) else (some (x1, σ))))
set_option maxRecDepth 100000 in
set_option maxHeartbeats 4000000 in
theorem k_X3_costByColour_b0 {q : Mc} {E : En} {L : List Nat} {o : Int32 × Sg} (C : Cx q E L cX3_costByColour 4 RX3 (some .int) (1)) (k : Nat) (hB : Bk L sh_Game k) (x1 : Int32) (x2 : Int32) (x3 : Int32) (σ : Sg) (hf : f_X3_costByColour k x1 x2 x3 σ = some o) : Vx q E L 4 (some .int) o 0 [(0, .ref (E.2.1 (k))), (1, .int x1), (2, .int x2), (3, .int x3)] [] σ := by
  unfold f_X3_costByColour at hf
  refine v_aload_n 0 C dX3_costByColour_0 rfl rfl ?_
  refine v_getR 1 C lk_X3_12 (hB 0 _ rfl) (by decide) rfl dX3_costByColour_1 ?_
  refine v_getR 4 C lk_X3_57 ((hB.sub (sh' := sh_Cut) 1 rfl) 0 _ rfl) (by decide) rfl dX3_costByColour_4 ?_
  refine v_iload_n 7 C dX3_costByColour_7 rfl rfl ?_
  refine v_iald 8 C ((hB.sub (sh' := sh_Cut) 1 rfl) 4 _ rfl) dX3_costByColour_8 hf (fun v1 hf => ?_)
  refine v_aload_n 9 C dX3_costByColour_9 rfl rfl ?_
  refine v_getR 10 C lk_X3_12 (hB 0 _ rfl) (by decide) rfl dX3_costByColour_10 ?_
  refine v_getR 13 C lk_X3_57 ((hB.sub (sh' := sh_Cut) 1 rfl) 0 _ rfl) (by decide) rfl dX3_costByColour_13 ?_
  refine v_iload_n 16 C dX3_costByColour_16 rfl rfl ?_
  refine v_iald 17 C ((hB.sub (sh' := sh_Cut) 1 rfl) 4 _ rfl) dX3_costByColour_17 hf (fun v2 hf => ?_)
  refine v_icmp_ne (tgt := 29) 18 C dX3_costByColour_18 (by decide) hf (fun hf => ?_) (fun hf => ?_)
  · refine v_iload_n 29 C dX3_costByColour_29 rfl rfl ?_
    exact v_iret 30 C rfl dX3_costByColour_30 hf
  · refine v_iload_n 21 C dX3_costByColour_21 rfl rfl ?_
    refine v_iconst (v := 1) 22 C dX3_costByColour_22 (by decide) ?_
    refine v_iadd 23 C dX3_costByColour_23 ?_
    refine v_iconst (v := 2) 24 C dX3_costByColour_24 (by decide) ?_
    refine v_idiv_c 25 C dX3_costByColour_25 (by decide) ?_
    refine v_goto (tgt := 30) 26 C dX3_costByColour_26 (by decide) ?_
    exact v_iret 30 C rfl dX3_costByColour_30 hf
theorem m_X3_costByColour {l : Launch} {E : En} {L : List Nat} (k : Nat) (hB : Bk L sh_Game k) (x1 : Int32) (x2 : Int32) (x3 : Int32) (σ : Sg) (o : Int32 × Sg) (hf : f_X3_costByColour k x1 x2 x3 σ = some o) : Mi l yX3_costByColour cX3_costByColour 4 (some .int) (1) E L [.ref (E.2.1 (k)), .int x1, .int x2, .int x3] σ o :=
  Mi.of RX3 rfl (by decide) (Nat.le_of_ble_eq_true rfl) (fun q hq C => by subst hq; exact k_X3_costByColour_b0 C k hB x1 x2 x3 σ hf)
def f_X3_plainCost (k : Nat) (x1 : Int32) (x2 : Int32) (x3 : Int32) (σ : Sg) : Rs := p_rd σ (k + 12 + 2) 6 x1 (fun v1 => p_rd σ (k + 12 + 1) 6 x1 (fun v2 => if v2 = 1 then (p_call (f_X3_costByColour k v1 x2 x3 σ) (fun v3 s4 => some (v3, s4))) else (if v2 = 2 then (p_rd σ (k + 1 + 3) 16 x3 (fun v5 => if v5 = 0 then (some (2 * v1, σ)) else (some ((v1 + 1) / 2, σ)))) else (if v2 = 3 then (p_rd σ (k + 1 + 4) 16 x2 (fun v6 => if v6 = 3 then (some (3 * v1, σ)) else (p_call (f_X3_costByColour k v1 x2 x3 σ) (fun v7 s8 => some (v7, s8))))) else (if v2 = 4 then (some (v1 + 2, σ)) else (some (v1, σ)))))))
set_option maxRecDepth 100000 in
set_option maxHeartbeats 4000000 in
theorem k_X3_plainCost_b0 {q : Mc} {E : En} {L : List Nat} {o : Int32 × Sg} (C : Cx q E L cX3_plainCost 5 RX3 (some .int) (2)) (k : Nat) (hB : Bk L sh_Game k) (x1 : Int32) (x2 : Int32) (x3 : Int32) (σ : Sg) (hf : f_X3_plainCost k x1 x2 x3 σ = some o) : Vx q E L 5 (some .int) o 0 [(0, .ref (E.2.1 (k))), (1, .int x1), (2, .int x2), (3, .int x3)] [] σ := by
  unfold f_X3_plainCost at hf
  refine v_aload_n 0 C dX3_plainCost_0 rfl rfl ?_
  refine v_getR 1 C lk_X3_28 (hB 0 _ rfl) (by decide) rfl dX3_plainCost_1 ?_
  refine v_getR 4 C lk_X3_43 ((hB.sub (sh' := sh_People) 12 rfl) 0 _ rfl) (by decide) rfl dX3_plainCost_4 ?_
  refine v_iload_n 7 C dX3_plainCost_7 rfl rfl ?_
  refine v_iald 8 C ((hB.sub (sh' := sh_People) 12 rfl) 2 _ rfl) dX3_plainCost_8 hf (fun v1 hf => ?_)
  refine v_istore (lv' := [(0, .ref (E.2.1 (k))), (1, .int x1), (2, .int x2), (3, .int x3), (4, .int v1)]) 9 C dX3_plainCost_9 (by decide) rfl rfl ?_
  refine v_aload_n 11 C dX3_plainCost_11 rfl rfl ?_
  refine v_getR 12 C lk_X3_28 (hB 0 _ rfl) (by decide) rfl dX3_plainCost_12 ?_
  refine v_getR 15 C lk_X3_47 ((hB.sub (sh' := sh_People) 12 rfl) 0 _ rfl) (by decide) rfl dX3_plainCost_15 ?_
  refine v_iload_n 18 C dX3_plainCost_18 rfl rfl ?_
  refine v_iald 19 C ((hB.sub (sh' := sh_People) 12 rfl) 1 _ rfl) dX3_plainCost_19 hf (fun v2 hf => ?_)
  refine v_case (v := 1) hf (fun hx hf => ?_) (fun hn0 hf => ?_)
  · refine v_tabIn (tgt := 52) 20 C hx dX3_plainCost_20 (by decide) rfl (by decide) ?_
    refine v_aload_n 52 C dX3_plainCost_52 rfl rfl ?_
    refine v_iload 53 C dX3_plainCost_53 rfl ?_
    refine v_iload_n 55 C dX3_plainCost_55 rfl rfl ?_
    refine v_iload_n 56 C dX3_plainCost_56 rfl rfl ?_
    refine v_callV (st := []) 57 C [.int v1, .int x2, .int x3] lm_X3_50 ly_X3_costByColour (hB 0 _ rfl) (by decide) dX3_plainCost_57 rfl (by decide) rfl (Nat.le_of_ble_eq_true rfl) (fun o1 h1 => m_X3_costByColour k hB v1 x2 x3 σ o1 h1) hf (fun v3 s4 hf => ?_)
    exact v_iret 60 C rfl dX3_plainCost_60 hf
  refine v_case (v := 2) hf (fun hx hf => ?_) (fun hn1 hf => ?_)
  · refine v_tabIn (tgt := 61) 20 C hx dX3_plainCost_20 (by decide) rfl (by decide) ?_
    refine v_aload_n 61 C dX3_plainCost_61 rfl rfl ?_
    refine v_getR 62 C lk_X3_12 (hB 0 _ rfl) (by decide) rfl dX3_plainCost_62 ?_
    refine v_getR 65 C lk_X3_53 ((hB.sub (sh' := sh_Cut) 1 rfl) 0 _ rfl) (by decide) rfl dX3_plainCost_65 ?_
    refine v_iload_n 68 C dX3_plainCost_68 rfl rfl ?_
    refine v_zald 69 C ((hB.sub (sh' := sh_Cut) 1 rfl) 3 _ rfl) dX3_plainCost_69 hf (fun v5 hf => ?_)
    refine v_if_eq (tgt := 82) 70 C dX3_plainCost_70 (by decide) hf (fun hf => ?_) (fun hf => ?_)
    · refine v_iconst (v := 2) 82 C dX3_plainCost_82 (by decide) ?_
      refine v_iload 83 C dX3_plainCost_83 rfl ?_
      refine v_imul 85 C dX3_plainCost_85 ?_
      exact v_iret 86 C rfl dX3_plainCost_86 hf
    · refine v_iload 73 C dX3_plainCost_73 rfl ?_
      refine v_iconst (v := 1) 75 C dX3_plainCost_75 (by decide) ?_
      refine v_iadd 76 C dX3_plainCost_76 ?_
      refine v_iconst (v := 2) 77 C dX3_plainCost_77 (by decide) ?_
      refine v_idiv_c 78 C dX3_plainCost_78 (by decide) ?_
      refine v_goto (tgt := 86) 79 C dX3_plainCost_79 (by decide) ?_
      exact v_iret 86 C rfl dX3_plainCost_86 hf
  refine v_case (v := 3) hf (fun hx hf => ?_) (fun hn2 hf => ?_)
  · refine v_tabIn (tgt := 87) 20 C hx dX3_plainCost_20 (by decide) rfl (by decide) ?_
    refine v_aload_n 87 C dX3_plainCost_87 rfl rfl ?_
    refine v_getR 88 C lk_X3_12 (hB 0 _ rfl) (by decide) rfl dX3_plainCost_88 ?_
    refine v_getR 91 C lk_X3_57 ((hB.sub (sh' := sh_Cut) 1 rfl) 0 _ rfl) (by decide) rfl dX3_plainCost_91 ?_
    refine v_iload_n 94 C dX3_plainCost_94 rfl rfl ?_
    refine v_iald 95 C ((hB.sub (sh' := sh_Cut) 1 rfl) 4 _ rfl) dX3_plainCost_95 hf (fun v6 hf => ?_)
    refine v_iconst (v := 3) 96 C dX3_plainCost_96 (by decide) ?_
    refine v_icmp_ne (tgt := 107) 97 C dX3_plainCost_97 (by decide) hf (fun hf => ?_) (fun hf => ?_)
    · refine v_aload_n 107 C dX3_plainCost_107 rfl rfl ?_
      refine v_iload 108 C dX3_plainCost_108 rfl ?_
      refine v_iload_n 110 C dX3_plainCost_110 rfl rfl ?_
      refine v_iload_n 111 C dX3_plainCost_111 rfl rfl ?_
      refine v_callV (st := []) 112 C [.int v1, .int x2, .int x3] lm_X3_50 ly_X3_costByColour (hB 0 _ rfl) (by decide) dX3_plainCost_112 rfl (by decide) rfl (Nat.le_of_ble_eq_true rfl) (fun o1 h1 => m_X3_costByColour k hB v1 x2 x3 σ o1 h1) hf (fun v7 s8 hf => ?_)
      exact v_iret 115 C rfl dX3_plainCost_115 hf
    · refine v_iconst (v := 3) 100 C dX3_plainCost_100 (by decide) ?_
      refine v_iload 101 C dX3_plainCost_101 rfl ?_
      refine v_imul 103 C dX3_plainCost_103 ?_
      refine v_goto (tgt := 115) 104 C dX3_plainCost_104 (by decide) ?_
      exact v_iret 115 C rfl dX3_plainCost_115 hf
  refine v_case (v := 4) hf (fun hx hf => ?_) (fun hn3 hf => ?_)
  · refine v_tabIn (tgt := 116) 20 C hx dX3_plainCost_20 (by decide) rfl (by decide) ?_
    refine v_iload 116 C dX3_plainCost_116 rfl ?_
    refine v_iconst (v := 2) 118 C dX3_plainCost_118 (by decide) ?_
    refine v_iadd 119 C dX3_plainCost_119 ?_
    exact v_iret 120 C rfl dX3_plainCost_120 hf
  refine v_tabOut (tgt := 121) 20 C dX3_plainCost_20 (by have g0 := lv_neT hn0 (show (1 : Int32).toInt = 1 from rfl); have g1 := lv_neT hn1 (show (2 : Int32).toInt = 2 from rfl); have g2 := lv_neT hn2 (show (3 : Int32).toInt = 3 from rfl); have g3 := lv_neT hn3 (show (4 : Int32).toInt = 4 from rfl); omega) (by decide) ?_
  refine v_iload 121 C dX3_plainCost_121 rfl ?_
  exact v_iret 123 C rfl dX3_plainCost_123 hf
theorem m_X3_plainCost {l : Launch} {E : En} {L : List Nat} (k : Nat) (hB : Bk L sh_Game k) (x1 : Int32) (x2 : Int32) (x3 : Int32) (σ : Sg) (o : Int32 × Sg) (hf : f_X3_plainCost k x1 x2 x3 σ = some o) : Mi l yX3_plainCost cX3_plainCost 5 (some .int) (2) E L [.ref (E.2.1 (k)), .int x1, .int x2, .int x3] σ o :=
  Mi.of RX3 rfl (by decide) (Nat.le_of_ble_eq_true rfl) (fun q hq C => by subst hq; exact k_X3_plainCost_b0 C k hB x1 x2 x3 σ hf)
def f_X3_costOf (k : Nat) (x1 : Int32) (x2 : Int32) (x3 : Int32) (x4 : Int32) (σ : Sg) : Rs := p_call (f_X3_plainCost k x1 x2 x3 σ) (fun v1 s2 => if x4 = 2 then (some (2 * v1, s2)) else (some (v1, s2)))
set_option maxRecDepth 100000 in
set_option maxHeartbeats 4000000 in
theorem k_X3_costOf_b0 {q : Mc} {E : En} {L : List Nat} {o : Int32 × Sg} (C : Cx q E L cX3_costOf 6 RX3 (some .int) (3)) (k : Nat) (hB : Bk L sh_Game k) (x1 : Int32) (x2 : Int32) (x3 : Int32) (x4 : Int32) (σ : Sg) (hf : f_X3_costOf k x1 x2 x3 x4 σ = some o) : Vx q E L 6 (some .int) o 0 [(0, .ref (E.2.1 (k))), (1, .int x1), (2, .int x2), (3, .int x3), (4, .int x4)] [] σ := by
  unfold f_X3_costOf at hf
  refine v_aload_n 0 C dX3_costOf_0 rfl rfl ?_
  refine v_iload_n 1 C dX3_costOf_1 rfl rfl ?_
  refine v_iload_n 2 C dX3_costOf_2 rfl rfl ?_
  refine v_iload_n 3 C dX3_costOf_3 rfl rfl ?_
  refine v_callV (st := []) 4 C [.int x1, .int x2, .int x3] lm_X3_39 ly_X3_plainCost (hB 0 _ rfl) (by decide) dX3_costOf_4 rfl (by decide) rfl (Nat.le_of_ble_eq_true rfl) (fun o1 h1 => m_X3_plainCost k hB x1 x2 x3 σ o1 h1) hf (fun v1 s2 hf => ?_)
  refine v_istore (lv' := [(0, .ref (E.2.1 (k))), (1, .int x1), (2, .int x2), (3, .int x3), (4, .int x4), (5, .int v1)]) 7 C dX3_costOf_7 (by decide) rfl rfl ?_
  refine v_iload 9 C dX3_costOf_9 rfl ?_
  refine v_iconst (v := 2) 11 C dX3_costOf_11 (by decide) ?_
  refine v_icmp_ne (tgt := 22) 12 C dX3_costOf_12 (by decide) hf (fun hf => ?_) (fun hf => ?_)
  · refine v_iload 22 C dX3_costOf_22 rfl ?_
    exact v_iret 24 C rfl dX3_costOf_24 hf
  · refine v_iconst (v := 2) 15 C dX3_costOf_15 (by decide) ?_
    refine v_iload 16 C dX3_costOf_16 rfl ?_
    refine v_imul 18 C dX3_costOf_18 ?_
    refine v_goto (tgt := 24) 19 C dX3_costOf_19 (by decide) ?_
    exact v_iret 24 C rfl dX3_costOf_24 hf
theorem m_X3_costOf {l : Launch} {E : En} {L : List Nat} (k : Nat) (hB : Bk L sh_Game k) (x1 : Int32) (x2 : Int32) (x3 : Int32) (x4 : Int32) (σ : Sg) (o : Int32 × Sg) (hf : f_X3_costOf k x1 x2 x3 x4 σ = some o) : Mi l yX3_costOf cX3_costOf 6 (some .int) (3) E L [.ref (E.2.1 (k)), .int x1, .int x2, .int x3, .int x4] σ o :=
  Mi.of RX3 rfl (by decide) (Nat.le_of_ble_eq_true rfl) (fun q hq C => by subst hq; exact k_X3_costOf_b0 C k hB x1 x2 x3 x4 σ hf)
def f_X3_fitsSomehow_b2 (k : Nat)  : Nat → Int32 → Int32 → Int32 → Sg → Rs
  | 0, _, _, _, _ => none
  | n + 1, x1, x2, x3, σ => if 4 ≤ x3 then (some (0, σ)) else (p_call (f_X1_isFit (k + 1) (k + 6) x1 x3 x2 σ) (fun v1 s2 => if v1 = 0 then (f_X3_fitsSomehow_b2 k n x1 x2 (x3 + 1) s2) else (some (1, s2))))
set_option maxRecDepth 100000 in
set_option maxHeartbeats 4000000 in
theorem k_X3_fitsSomehow_b2 {q : Mc} {E : En} {L : List Nat} {o : Int32 × Sg} (C : Cx q E L cX3_fitsSomehow 4 RX3 (some .boolean) (4)) (k : Nat) (hB : Bk L sh_Game k) (n : Nat) : ∀ (x1 : Int32) (x2 : Int32) (x3 : Int32) (σ : Sg), f_X3_fitsSomehow_b2 k n x1 x2 x3 σ = some o → Vx q E L 4 (some .boolean) o 2 [(0, .ref (E.2.1 (k))), (1, .int x1), (2, .int x2), (3, .int x3)] [] σ := by
  induction n with
  | zero => intro x1 x2 x3 σ hf; cases (show (none : Rs) = some o from hf)
  | succ n ih =>
    intro x1 x2 x3 σ hf
    rw [f_X3_fitsSomehow_b2] at hf
    refine v_iload_n 2 C dX3_fitsSomehow_2 rfl rfl ?_
    refine v_iconst (v := 4) 3 C dX3_fitsSomehow_3 (by decide) ?_
    refine v_icmp_ge (tgt := 32) 4 C dX3_fitsSomehow_4 (by decide) hf (fun hf => ?_) (fun hf => ?_)
    · refine v_iconst (v := 0) 32 C dX3_fitsSomehow_32 (by decide) ?_
      exact v_zretN 33 C rfl dX3_fitsSomehow_33 (by decide) hf
    · refine v_aload_n 7 C dX3_fitsSomehow_7 rfl rfl ?_
      refine v_getR 8 C lk_X3_12 (hB 0 _ rfl) (by decide) rfl dX3_fitsSomehow_8 ?_
      refine v_aload_n 11 C dX3_fitsSomehow_11 rfl rfl ?_
      refine v_getR 12 C lk_X3_21 (hB 0 _ rfl) (by decide) rfl dX3_fitsSomehow_12 ?_
      refine v_iload_n 15 C dX3_fitsSomehow_15 rfl rfl ?_
      refine v_iload_n 16 C dX3_fitsSomehow_16 rfl rfl ?_
      refine v_iload_n 17 C dX3_fitsSomehow_17 rfl rfl ?_
      refine v_callV (st := []) 18 C [.ref (E.2.1 (k + 6)), .int x1, .int x3, .int x2] lm_X3_72 ly_X1_isFit ((hB.sub (sh' := sh_Cut) 1 rfl) 0 _ rfl) (by decide) dX3_fitsSomehow_18 rfl (by decide) rfl (Nat.le_of_ble_eq_true rfl) (fun o1 h1 => m_X1_isFit (k + 1) (k + 6) (hB.sub (sh' := sh_Cut) 1 rfl) (hB.sub (sh' := sh_Board) 6 rfl) x1 x3 x2 σ o1 h1) hf (fun v1 s2 hf => ?_)
      refine v_if_eq (tgt := 26) 21 C dX3_fitsSomehow_21 (by decide) hf (fun hf => ?_) (fun hf => ?_)
      · refine v_iinc (v := x3 + 1) (lv' := [(0, .ref (E.2.1 (k))), (1, .int x1), (2, .int x2), (3, .int (x3 + 1))]) 26 C dX3_fitsSomehow_26 rfl (by rfl) (by decide) rfl rfl ?_
        refine v_goto (tgt := 2) 29 C dX3_fitsSomehow_29 (by decide) ?_
        exact Vx.lv [0, 1, 2, 3] rfl (ih x1 x2 (x3 + 1) s2 hf)
      · refine v_iconst (v := 1) 24 C dX3_fitsSomehow_24 (by decide) ?_
        exact v_zretN 25 C rfl dX3_fitsSomehow_25 (by decide) hf
def f_X3_fitsSomehow (k : Nat) (x1 : Int32) (x2 : Int32) (σ : Sg) : Rs := f_X3_fitsSomehow_b2 k fu x1 x2 0 σ
set_option maxRecDepth 100000 in
set_option maxHeartbeats 4000000 in
theorem k_X3_fitsSomehow_b0 {q : Mc} {E : En} {L : List Nat} {o : Int32 × Sg} (C : Cx q E L cX3_fitsSomehow 4 RX3 (some .boolean) (4)) (k : Nat) (hB : Bk L sh_Game k) (x1 : Int32) (x2 : Int32) (σ : Sg) (hf : f_X3_fitsSomehow k x1 x2 σ = some o) : Vx q E L 4 (some .boolean) o 0 [(0, .ref (E.2.1 (k))), (1, .int x1), (2, .int x2)] [] σ := by
  unfold f_X3_fitsSomehow at hf
  refine v_iconst (v := 0) 0 C dX3_fitsSomehow_0 (by decide) ?_
  refine v_istore_n (lv' := [(0, .ref (E.2.1 (k))), (1, .int x1), (2, .int x2), (3, .int 0)]) 1 C dX3_fitsSomehow_1 rfl (by decide) rfl rfl ?_
  exact Vx.lv [0, 1, 2, 3] rfl (k_X3_fitsSomehow_b2 C k hB fu x1 x2 0 σ hf)
theorem m_X3_fitsSomehow {l : Launch} {E : En} {L : List Nat} (k : Nat) (hB : Bk L sh_Game k) (x1 : Int32) (x2 : Int32) (σ : Sg) (o : Int32 × Sg) (hf : f_X3_fitsSomehow k x1 x2 σ = some o) : Mi l yX3_fitsSomehow cX3_fitsSomehow 4 (some .boolean) (4) E L [.ref (E.2.1 (k)), .int x1, .int x2] σ o :=
  Mi.of RX3 rfl (by decide) (Nat.le_of_ble_eq_true rfl) (fun q hq C => by subst hq; exact k_X3_fitsSomehow_b0 C k hB x1 x2 σ hf)
def f_X3_hasPlaceFor_b35 (k : Nat) (r2 : Int32 → Int32 → Sg → Rs) (x1 : Int32) (x2 : Int32) (σ : Sg) : Rs := r2 x1 (x2 + 1) σ
set_option maxRecDepth 100000 in
set_option maxHeartbeats 4000000 in
theorem k_X3_hasPlaceFor_b35 {q : Mc} {E : En} {L : List Nat} {o : Int32 × Sg} (C : Cx q E L cX3_hasPlaceFor 3 RX3 (some .boolean) (5)) (k : Nat) (hB : Bk L sh_Game k) (r2 : Int32 → Int32 → Sg → Rs) (hr2 : ∀ (x1 : Int32) (x2 : Int32) (σ : Sg), r2 x1 x2 σ = some o → Vx q E L 3 (some .boolean) o 2 [(0, .ref (E.2.1 (k))), (1, .int x1), (2, .int x2)] [] σ) (x1 : Int32) (x2 : Int32) (σ : Sg) (hf : f_X3_hasPlaceFor_b35 k r2 x1 x2 σ = some o) : Vx q E L 3 (some .boolean) o 35 [(0, .ref (E.2.1 (k))), (1, .int x1), (2, .int x2)] [] σ := by
  unfold f_X3_hasPlaceFor_b35 at hf
  refine v_iinc (v := x2 + 1) (lv' := [(0, .ref (E.2.1 (k))), (1, .int x1), (2, .int (x2 + 1))]) 35 C dX3_hasPlaceFor_35 rfl (by rfl) (by decide) rfl rfl ?_
  refine v_goto (tgt := 2) 38 C dX3_hasPlaceFor_38 (by decide) ?_
  exact Vx.lv [0, 1, 2] rfl (hr2 x1 (x2 + 1) σ hf)
def f_X3_hasPlaceFor_b2 (k : Nat)  : Nat → Int32 → Int32 → Sg → Rs
  | 0, _, _, _ => none
  | n + 1, x1, x2, σ => if (σ (k + 1) 2) ≤ x2 then (some (0, σ)) else (p_call (f_X0_isFilled (k + 6) x2 σ) (fun v1 s2 => if v1 = 0 then (p_call (f_X3_fitsSomehow k x1 x2 s2) (fun v3 s4 => if v3 = 0 then (f_X3_hasPlaceFor_b35 k (f_X3_hasPlaceFor_b2 k n) x1 x2 s4) else (some (1, s4)))) else (f_X3_hasPlaceFor_b35 k (f_X3_hasPlaceFor_b2 k n) x1 x2 s2)))
set_option maxRecDepth 100000 in
set_option maxHeartbeats 4000000 in
theorem k_X3_hasPlaceFor_b2 {q : Mc} {E : En} {L : List Nat} {o : Int32 × Sg} (C : Cx q E L cX3_hasPlaceFor 3 RX3 (some .boolean) (5)) (k : Nat) (hB : Bk L sh_Game k) (n : Nat) : ∀ (x1 : Int32) (x2 : Int32) (σ : Sg), f_X3_hasPlaceFor_b2 k n x1 x2 σ = some o → Vx q E L 3 (some .boolean) o 2 [(0, .ref (E.2.1 (k))), (1, .int x1), (2, .int x2)] [] σ := by
  induction n with
  | zero => intro x1 x2 σ hf; cases (show (none : Rs) = some o from hf)
  | succ n ih =>
    intro x1 x2 σ hf
    rw [f_X3_hasPlaceFor_b2] at hf
    refine v_iload_n 2 C dX3_hasPlaceFor_2 rfl rfl ?_
    refine v_aload_n 3 C dX3_hasPlaceFor_3 rfl rfl ?_
    refine v_getR 4 C lk_X3_12 (hB 0 _ rfl) (by decide) rfl dX3_hasPlaceFor_4 ?_
    refine v_getI (dum := 0) 7 C lk_X3_60 ((hB.sub (sh' := sh_Cut) 1 rfl) 0 _ rfl) (by decide) rfl dX3_hasPlaceFor_7 ?_
    refine v_icmp_ge (tgt := 41) 10 C dX3_hasPlaceFor_10 (by decide) hf (fun hf => ?_) (fun hf => ?_)
    · refine v_iconst (v := 0) 41 C dX3_hasPlaceFor_41 (by decide) ?_
      exact v_zretN 42 C rfl dX3_hasPlaceFor_42 (by decide) hf
    · refine v_aload_n 13 C dX3_hasPlaceFor_13 rfl rfl ?_
      refine v_getR 14 C lk_X3_21 (hB 0 _ rfl) (by decide) rfl dX3_hasPlaceFor_14 ?_
      refine v_iload_n 17 C dX3_hasPlaceFor_17 rfl rfl ?_
      refine v_callV (st := []) 18 C [.int x2] lm_X3_64 ly_X0_isFilled ((hB.sub (sh' := sh_Board) 6 rfl) 0 _ rfl) (by decide) dX3_hasPlaceFor_18 rfl (by decide) rfl (Nat.le_of_ble_eq_true rfl) (fun o1 h1 => m_X0_isFilled (k + 6) (hB.sub (sh' := sh_Board) 6 rfl) x2 σ o1 h1) hf (fun v1 s2 hf => ?_)
      refine v_if_ne (tgt := 35) 21 C dX3_hasPlaceFor_21 (by decide) hf (fun hf => ?_) (fun hf => ?_)
      · exact Vx.lv [0, 1, 2] rfl (k_X3_hasPlaceFor_b35 C k hB (f_X3_hasPlaceFor_b2 k n) ih x1 x2 s2 hf)
      · refine v_aload_n 24 C dX3_hasPlaceFor_24 rfl rfl ?_
        refine v_iload_n 25 C dX3_hasPlaceFor_25 rfl rfl ?_
        refine v_iload_n 26 C dX3_hasPlaceFor_26 rfl rfl ?_
        refine v_callV (st := []) 27 C [.int x1, .int x2] lm_X3_68 ly_X3_fitsSomehow (hB 0 _ rfl) (by decide) dX3_hasPlaceFor_27 rfl (by decide) rfl (Nat.le_of_ble_eq_true rfl) (fun o1 h1 => m_X3_fitsSomehow k hB x1 x2 s2 o1 h1) hf (fun v3 s4 hf => ?_)
        refine v_if_eq (tgt := 35) 30 C dX3_hasPlaceFor_30 (by decide) hf (fun hf => ?_) (fun hf => ?_)
        · exact Vx.lv [0, 1, 2] rfl (k_X3_hasPlaceFor_b35 C k hB (f_X3_hasPlaceFor_b2 k n) ih x1 x2 s4 hf)
        · refine v_iconst (v := 1) 33 C dX3_hasPlaceFor_33 (by decide) ?_
          exact v_zretN 34 C rfl dX3_hasPlaceFor_34 (by decide) hf
def f_X3_hasPlaceFor (k : Nat) (x1 : Int32) (σ : Sg) : Rs := f_X3_hasPlaceFor_b2 k fu x1 0 σ
set_option maxRecDepth 100000 in
set_option maxHeartbeats 4000000 in
theorem k_X3_hasPlaceFor_b0 {q : Mc} {E : En} {L : List Nat} {o : Int32 × Sg} (C : Cx q E L cX3_hasPlaceFor 3 RX3 (some .boolean) (5)) (k : Nat) (hB : Bk L sh_Game k) (x1 : Int32) (σ : Sg) (hf : f_X3_hasPlaceFor k x1 σ = some o) : Vx q E L 3 (some .boolean) o 0 [(0, .ref (E.2.1 (k))), (1, .int x1)] [] σ := by
  unfold f_X3_hasPlaceFor at hf
  refine v_iconst (v := 0) 0 C dX3_hasPlaceFor_0 (by decide) ?_
  refine v_istore_n (lv' := [(0, .ref (E.2.1 (k))), (1, .int x1), (2, .int 0)]) 1 C dX3_hasPlaceFor_1 rfl (by decide) rfl rfl ?_
  exact Vx.lv [0, 1, 2] rfl (k_X3_hasPlaceFor_b2 C k hB fu x1 0 σ hf)
theorem m_X3_hasPlaceFor {l : Launch} {E : En} {L : List Nat} (k : Nat) (hB : Bk L sh_Game k) (x1 : Int32) (σ : Sg) (o : Int32 × Sg) (hf : f_X3_hasPlaceFor k x1 σ = some o) : Mi l yX3_hasPlaceFor cX3_hasPlaceFor 3 (some .boolean) (5) E L [.ref (E.2.1 (k)), .int x1] σ o :=
  Mi.of RX3 rfl (by decide) (Nat.le_of_ble_eq_true rfl) (fun q hq C => by subst hq; exact k_X3_hasPlaceFor_b0 C k hB x1 σ hf)
def f_X3_copyFrom (k k1 : Nat) (σ : Sg) : Rs := p_call (f_X1_copyFrom (k + 1) (k1 + 1) σ) (fun v1 s2 => p_call (f_X0_copyFrom (k + 6) (k1 + 6) s2) (fun v3 s4 => p_call (f_X4_copyFrom (k + 12) (k1 + 12) s4) (fun v5 s6 => some (0, s6))))
set_option maxRecDepth 100000 in
set_option maxHeartbeats 4000000 in
theorem k_X3_copyFrom_b0 {q : Mc} {E : En} {L : List Nat} {o : Int32 × Sg} (C : Cx q E L cX3_copyFrom 2 RX3 none (2)) (k k1 : Nat) (hB : Bk L sh_Game k) (hB1 : Bk L sh_Game k1) (σ : Sg) (hf : f_X3_copyFrom k k1 σ = some o) : Vx q E L 2 none o 0 [(0, .ref (E.2.1 (k))), (1, .ref (E.2.1 (k1)))] [] σ := by
  unfold f_X3_copyFrom at hf
  refine v_aload_n 0 C dX3_copyFrom_0 rfl rfl ?_
  refine v_getR 1 C lk_X3_12 (hB 0 _ rfl) (by decide) rfl dX3_copyFrom_1 ?_
  refine v_aload_n 4 C dX3_copyFrom_4 rfl rfl ?_
  refine v_getR 5 C lk_X3_12 (hB1 0 _ rfl) (by decide) rfl dX3_copyFrom_5 ?_
  refine v_callV (st := []) 8 C [.ref (E.2.1 (k1 + 1))] lm_X3_76 ly_X1_copyFrom ((hB.sub (sh' := sh_Cut) 1 rfl) 0 _ rfl) (by decide) dX3_copyFrom_8 rfl (by decide) rfl (Nat.le_of_ble_eq_true rfl) (fun o1 h1 => m_X1_copyFrom (k + 1) (k1 + 1) (hB.sub (sh' := sh_Cut) 1 rfl) (hB1.sub (sh' := sh_Cut) 1 rfl)  σ o1 h1) hf (fun v1 s2 hf => ?_)
  refine v_aload_n 11 C dX3_copyFrom_11 rfl rfl ?_
  refine v_getR 12 C lk_X3_21 (hB 0 _ rfl) (by decide) rfl dX3_copyFrom_12 ?_
  refine v_aload_n 15 C dX3_copyFrom_15 rfl rfl ?_
  refine v_getR 16 C lk_X3_21 (hB1 0 _ rfl) (by decide) rfl dX3_copyFrom_16 ?_
  refine v_callV (st := []) 19 C [.ref (E.2.1 (k1 + 6))] lm_X3_80 ly_X0_copyFrom ((hB.sub (sh' := sh_Board) 6 rfl) 0 _ rfl) (by decide) dX3_copyFrom_19 rfl (by decide) rfl (Nat.le_of_ble_eq_true rfl) (fun o1 h1 => m_X0_copyFrom (k + 6) (k1 + 6) (hB.sub (sh' := sh_Board) 6 rfl) (hB1.sub (sh' := sh_Board) 6 rfl)  s2 o1 h1) hf (fun v3 s4 hf => ?_)
  refine v_aload_n 22 C dX3_copyFrom_22 rfl rfl ?_
  refine v_getR 23 C lk_X3_28 (hB 0 _ rfl) (by decide) rfl dX3_copyFrom_23 ?_
  refine v_aload_n 26 C dX3_copyFrom_26 rfl rfl ?_
  refine v_getR 27 C lk_X3_28 (hB1 0 _ rfl) (by decide) rfl dX3_copyFrom_27 ?_
  refine v_callV (st := []) 30 C [.ref (E.2.1 (k1 + 12))] lm_X3_83 ly_X4_copyFrom ((hB.sub (sh' := sh_People) 12 rfl) 0 _ rfl) (by decide) dX3_copyFrom_30 rfl (by decide) rfl (Nat.le_of_ble_eq_true rfl) (fun o1 h1 => m_X4_copyFrom (k + 12) (k1 + 12) (hB.sub (sh' := sh_People) 12 rfl) (hB1.sub (sh' := sh_People) 12 rfl)  s4 o1 h1) hf (fun v5 s6 hf => ?_)
  exact v_ret (r := 0) 33 C rfl dX3_copyFrom_33 hf
theorem m_X3_copyFrom {l : Launch} {E : En} {L : List Nat} (k k1 : Nat) (hB : Bk L sh_Game k) (hB1 : Bk L sh_Game k1) (σ : Sg) (o : Int32 × Sg) (hf : f_X3_copyFrom k k1 σ = some o) : Mi l yX3_copyFrom cX3_copyFrom 2 none (2) E L [.ref (E.2.1 (k)), .ref (E.2.1 (k1))] σ o :=
  Mi.of RX3 rfl (by decide) (Nat.le_of_ble_eq_true rfl) (fun q hq C => by subst hq; exact k_X3_copyFrom_b0 C k k1 hB hB1  σ hf)
