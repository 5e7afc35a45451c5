/-! printed by wip/whole/gen/gen.py: methods as pure functions, and that the machine does them -/
def f_X0_clear_b2 (k : Nat)  : Nat → Int32 → Sg → Rs
  | 0, _, _ => none
  | n + 1, x1, σ => if 16 ≤ x1 then (some (0, σ)) else (p_wr σ (k + 1) 16 x1 (-1) (fun s1 => p_wr s1 (k + 4) 16 x1 (nz 0) (fun s2 => p_wr s2 (k + 5) 16 x1 (nz 0) (fun s3 => f_X0_clear_b2 k n (x1 + 1) s3))))
set_option maxRecDepth 100000 in
set_option maxHeartbeats 4000000 in
theorem k_X0_clear_b2 {q : Mc} {E : En} {L : List Nat} {o : Int32 × Sg} (C : Cx q E L cX0_clear 2 RX0 none (1)) (k : Nat) (hB : Bk L sh_Board k) (n : Nat) : ∀ (x1 : Int32) (σ : Sg), f_X0_clear_b2 k n x1 σ = some o → Vx q E L 2 none o 2 [(0, .ref (E.2.1 (k))), (1, .int x1)] [] σ := by
  induction n with
  | zero => intro x1 σ hf; cases (show (none : Rs) = some o from hf)
  | succ n ih =>
    intro x1 σ hf
    rw [f_X0_clear_b2] at hf
    refine v_iload_n 2 C dX0_clear_2 rfl rfl ?_
    refine v_bipush (v := 16) 3 C dX0_clear_3 (by decide) ?_
    refine v_icmp_ge (tgt := 35) 5 C dX0_clear_5 (by decide) hf (fun hf => ?_) (fun hf => ?_)
    · exact v_ret (r := 0) 35 C rfl dX0_clear_35 hf
    · refine v_aload_n 8 C dX0_clear_8 rfl rfl ?_
      refine v_getR 9 C lk_X0_9 (hB 0 _ rfl) (by decide) rfl dX0_clear_9 ?_
      refine v_iload_n 12 C dX0_clear_12 rfl rfl ?_
      refine v_iconst (v := (-1)) 13 C dX0_clear_13 (by decide) ?_
      refine v_iast 14 C (hB 1 _ rfl) dX0_clear_14 hf (fun s1 hf => ?_)
      refine v_aload_n 15 C dX0_clear_15 rfl rfl ?_
      refine v_getR 16 C lk_X0_21 (hB 0 _ rfl) (by decide) rfl dX0_clear_16 ?_
      refine v_iload_n 19 C dX0_clear_19 rfl rfl ?_
      refine v_iconst (v := 0) 20 C dX0_clear_20 (by decide) ?_
      refine v_zast 21 C (hB 4 _ rfl) dX0_clear_21 hf (fun s2 hf => ?_)
      refine v_aload_n 22 C dX0_clear_22 rfl rfl ?_
      refine v_getR 23 C lk_X0_25 (hB 0 _ rfl) (by decide) rfl dX0_clear_23 ?_
      refine v_iload_n 26 C dX0_clear_26 rfl rfl ?_
      refine v_iconst (v := 0) 27 C dX0_clear_27 (by decide) ?_
      refine v_zast 28 C (hB 5 _ rfl) dX0_clear_28 hf (fun s3 hf => ?_)
      refine v_iinc (v := x1 + 1) (lv' := [(0, .ref (E.2.1 (k))), (1, .int (x1 + 1))]) 29 C dX0_clear_29 rfl (by rfl) (by decide) rfl rfl ?_
      refine v_goto (tgt := 2) 32 C dX0_clear_32 (by decide) ?_
      exact Vx.lv [0, 1] rfl (ih (x1 + 1) s3 hf)
def f_X0_clear (k : Nat) (σ : Sg) : Rs := f_X0_clear_b2 k fu 0 σ
set_option maxRecDepth 100000 in
set_option maxHeartbeats 4000000 in
theorem k_X0_clear_b0 {q : Mc} {E : En} {L : List Nat} {o : Int32 × Sg} (C : Cx q E L cX0_clear 2 RX0 none (1)) (k : Nat) (hB : Bk L sh_Board k) (σ : Sg) (hf : f_X0_clear k σ = some o) : Vx q E L 2 none o 0 [(0, .ref (E.2.1 (k)))] [] σ := by
  unfold f_X0_clear at hf
  refine v_iconst (v := 0) 0 C dX0_clear_0 (by decide) ?_
  refine v_istore_n (lv' := [(0, .ref (E.2.1 (k))), (1, .int 0)]) 1 C dX0_clear_1 rfl (by decide) rfl rfl ?_
  exact Vx.lv [0, 1] rfl (k_X0_clear_b2 C k hB fu 0 σ hf)
theorem m_X0_clear {l : Launch} {E : En} {L : List Nat} (k : Nat) (hB : Bk L sh_Board k) (σ : Sg) (o : Int32 × Sg) (hf : f_X0_clear k σ = some o) : Mi l yX0_clear cX0_clear 2 none (1) E L [.ref (E.2.1 (k))] σ o :=
  Mi.of RX0 rfl (by decide) (Nat.le_of_ble_eq_true rfl) (fun q hq C => by subst hq; exact k_X0_clear_b0 C k hB  σ hf)
def f_X0_isFilled (k : Nat) (x1 : Int32) (σ : Sg) : Rs := p_rd σ (k + 1) 16 x1 (fun v1 => if v1 = (-1) then (some (0, σ)) else (some (1, σ)))
set_option maxRecDepth 100000 in
set_option maxHeartbeats 4000000 in
theorem k_X0_isFilled_b0 {q : Mc} {E : En} {L : List Nat} {o : Int32 × Sg} (C : Cx q E L cX0_isFilled 2 RX0 (some .boolean) (1)) (k : Nat) (hB : Bk L sh_Board k) (x1 : Int32) (σ : Sg) (hf : f_X0_isFilled k x1 σ = some o) : Vx q E L 2 (some .boolean) o 0 [(0, .ref (E.2.1 (k))), (1, .int x1)] [] σ := by
  unfold f_X0_isFilled at hf
  refine v_aload_n 0 C dX0_isFilled_0 rfl rfl ?_
  refine v_getR 1 C lk_X0_9 (hB 0 _ rfl) (by decide) rfl dX0_isFilled_1 ?_
  refine v_iload_n 4 C dX0_isFilled_4 rfl rfl ?_
  refine v_iald 5 C (hB 1 _ rfl) dX0_isFilled_5 hf (fun v1 hf => ?_)
  refine v_iconst (v := (-1)) 6 C dX0_isFilled_6 (by decide) ?_
  refine v_icmp_eq (tgt := 14) 7 C dX0_isFilled_7 (by decide) hf (fun hf => ?_) (fun hf => ?_)
  · refine v_iconst (v := 0) 14 C dX0_isFilled_14 (by decide) ?_
    exact v_zretN 15 C rfl dX0_isFilled_15 (by decide) hf
  · refine v_iconst (v := 1) 10 C dX0_isFilled_10 (by decide) ?_
    refine v_goto (tgt := 15) 11 C dX0_isFilled_11 (by decide) ?_
    exact v_zretN 15 C rfl dX0_isFilled_15 (by decide) hf
theorem m_X0_isFilled {l : Launch} {E : En} {L : List Nat} (k : Nat) (hB : Bk L sh_Board k) (x1 : Int32) (σ : Sg) (o : Int32 × Sg) (hf : f_X0_isFilled k x1 σ = some o) : Mi l yX0_isFilled cX0_isFilled 2 (some .boolean) (1) E L [.ref (E.2.1 (k)), .int x1] σ o :=
  Mi.of RX0 rfl (by decide) (Nat.le_of_ble_eq_true rfl) (fun q hq C => by subst hq; exact k_X0_isFilled_b0 C k hB x1 σ hf)
def f_X0_isAway_b18 (k : Nat) (σ : Sg) : Rs := some (1, σ)
set_option maxRecDepth 100000 in
set_option maxHeartbeats 4000000 in
theorem k_X0_isAway_b18 {q : Mc} {E : En} {L : List Nat} {o : Int32 × Sg} (C : Cx q E L cX0_isAway 2 RX0 (some .boolean) (1)) (k : Nat) (hB : Bk L sh_Board k) (σ : Sg) (hf : f_X0_isAway_b18 k σ = some o) : Vx q E L 2 (some .boolean) o 18 [] [] σ := by
  unfold f_X0_isAway_b18 at hf
  refine v_iconst (v := 1) 18 C dX0_isAway_18 (by decide) ?_
  refine v_goto (tgt := 23) 19 C dX0_isAway_19 (by decide) ?_
  exact v_zretN 23 C rfl dX0_isAway_23 (by decide) hf
def f_X0_isAway (k : Nat) (x1 : Int32) (σ : Sg) : Rs := p_rd σ (k + 4) 16 x1 (fun v1 => if v1 = 0 then (p_rd σ (k + 5) 16 x1 (fun v2 => if v2 = 0 then (some (0, σ)) else (f_X0_isAway_b18 k σ))) else (f_X0_isAway_b18 k σ))
set_option maxRecDepth 100000 in
set_option maxHeartbeats 4000000 in
theorem k_X0_isAway_b0 {q : Mc} {E : En} {L : List Nat} {o : Int32 × Sg} (C : Cx q E L cX0_isAway 2 RX0 (some .boolean) (1)) (k : Nat) (hB : Bk L sh_Board k) (x1 : Int32) (σ : Sg) (hf : f_X0_isAway k x1 σ = some o) : Vx q E L 2 (some .boolean) o 0 [(0, .ref (E.2.1 (k))), (1, .int x1)] [] σ := by
  unfold f_X0_isAway at hf
  refine v_aload_n 0 C dX0_isAway_0 rfl rfl ?_
  refine v_getR 1 C lk_X0_21 (hB 0 _ rfl) (by decide) rfl dX0_isAway_1 ?_
  refine v_iload_n 4 C dX0_isAway_4 rfl rfl ?_
  refine v_zald 5 C (hB 4 _ rfl) dX0_isAway_5 hf (fun v1 hf => ?_)
  refine v_if_ne (tgt := 18) 6 C dX0_isAway_6 (by decide) hf (fun hf => ?_) (fun hf => ?_)
  · exact Vx.lv [] rfl (k_X0_isAway_b18 C k hB σ hf)
  · refine v_aload_n 9 C dX0_isAway_9 rfl rfl ?_
    refine v_getR 10 C lk_X0_25 (hB 0 _ rfl) (by decide) rfl dX0_isAway_10 ?_
    refine v_iload_n 13 C dX0_isAway_13 rfl rfl ?_
    refine v_zald 14 C (hB 5 _ rfl) dX0_isAway_14 hf (fun v2 hf => ?_)
    refine v_if_eq (tgt := 22) 15 C dX0_isAway_15 (by decide) hf (fun hf => ?_) (fun hf => ?_)
    · refine v_iconst (v := 0) 22 C dX0_isAway_22 (by decide) ?_
      exact v_zretN 23 C rfl dX0_isAway_23 (by decide) hf
    · exact Vx.lv [] rfl (k_X0_isAway_b18 C k hB σ hf)
theorem m_X0_isAway {l : Launch} {E : En} {L : List Nat} (k : Nat) (hB : Bk L sh_Board k) (x1 : Int32) (σ : Sg) (o : Int32 × Sg) (hf : f_X0_isAway k x1 σ = some o) : Mi l yX0_isAway cX0_isAway 2 (some .boolean) (1) E L [.ref (E.2.1 (k)), .int x1] σ o :=
  Mi.of RX0 rfl (by decide) (Nat.le_of_ble_eq_true rfl) (fun q hq C => by subst hq; exact k_X0_isAway_b0 C k hB x1 σ hf)
def f_X0_isRight (k : Nat) (x1 : Int32) (σ : Sg) : Rs := p_rd σ (k + 1) 16 x1 (fun v1 => if v1 = x1 then (p_rd σ (k + 2) 16 x1 (fun v2 => if v2 = 0 then (some (1, σ)) else (some (0, σ)))) else (some (0, σ)))
set_option maxRecDepth 100000 in
set_option maxHeartbeats 4000000 in
theorem k_X0_isRight_b0 {q : Mc} {E : En} {L : List Nat} {o : Int32 × Sg} (C : Cx q E L cX0_isRight 2 RX0 (some .boolean) (1)) (k : Nat) (hB : Bk L sh_Board k) (x1 : Int32) (σ : Sg) (hf : f_X0_isRight k x1 σ = some o) : Vx q E L 2 (some .boolean) o 0 [(0, .ref (E.2.1 (k))), (1, .int x1)] [] σ := by
  unfold f_X0_isRight at hf
  refine v_aload_n 0 C dX0_isRight_0 rfl rfl ?_
  refine v_getR 1 C lk_X0_9 (hB 0 _ rfl) (by decide) rfl dX0_isRight_1 ?_
  refine v_iload_n 4 C dX0_isRight_4 rfl rfl ?_
  refine v_iald 5 C (hB 1 _ rfl) dX0_isRight_5 hf (fun v1 hf => ?_)
  refine v_iload_n 6 C dX0_isRight_6 rfl rfl ?_
  refine v_icmp_ne (tgt := 23) 7 C dX0_isRight_7 (by decide) hf (fun hf => ?_) (fun hf => ?_)
  · refine v_iconst (v := 0) 23 C dX0_isRight_23 (by decide) ?_
    exact v_zretN 24 C rfl dX0_isRight_24 (by decide) hf
  · refine v_aload_n 10 C dX0_isRight_10 rfl rfl ?_
    refine v_getR 11 C lk_X0_15 (hB 0 _ rfl) (by decide) rfl dX0_isRight_11 ?_
    refine v_iload_n 14 C dX0_isRight_14 rfl rfl ?_
    refine v_iald 15 C (hB 2 _ rfl) dX0_isRight_15 hf (fun v2 hf => ?_)
    refine v_if_ne (tgt := 23) 16 C dX0_isRight_16 (by decide) hf (fun hf => ?_) (fun hf => ?_)
    · refine v_iconst (v := 0) 23 C dX0_isRight_23 (by decide) ?_
      exact v_zretN 24 C rfl dX0_isRight_24 (by decide) hf
    · refine v_iconst (v := 1) 19 C dX0_isRight_19 (by decide) ?_
      refine v_goto (tgt := 24) 20 C dX0_isRight_20 (by decide) ?_
      exact v_zretN 24 C rfl dX0_isRight_24 (by decide) hf
theorem m_X0_isRight {l : Launch} {E : En} {L : List Nat} (k : Nat) (hB : Bk L sh_Board k) (x1 : Int32) (σ : Sg) (o : Int32 × Sg) (hf : f_X0_isRight k x1 σ = some o) : Mi l yX0_isRight cX0_isRight 2 (some .boolean) (1) E L [.ref (E.2.1 (k)), .int x1] σ o :=
  Mi.of RX0 rfl (by decide) (Nat.le_of_ble_eq_true rfl) (fun q hq C => by subst hq; exact k_X0_isRight_b0 C k hB x1 σ hf)
def f_X0_put (k : Nat) (x1 : Int32) (x2 : Int32) (x3 : Int32) (x4 : Int32) (σ : Sg) : Rs := p_wr σ (k + 1) 16 x1 x2 (fun s1 => p_wr s1 (k + 2) 16 x1 x3 (fun s2 => p_wr s2 (k + 3) 16 x1 x4 (fun s3 => p_wr s3 (k + 4) 16 x2 (nz 1) (fun s4 => some (0, s4)))))
set_option maxRecDepth 100000 in
set_option maxHeartbeats 4000000 in
theorem k_X0_put_b0 {q : Mc} {E : En} {L : List Nat} {o : Int32 × Sg} (C : Cx q E L cX0_put 5 RX0 none (1)) (k : Nat) (hB : Bk L sh_Board k) (x1 : Int32) (x2 : Int32) (x3 : Int32) (x4 : Int32) (σ : Sg) (hf : f_X0_put k x1 x2 x3 x4 σ = some o) : Vx q E L 5 none o 0 [(0, .ref (E.2.1 (k))), (1, .int x1), (2, .int x2), (3, .int x3), (4, .int x4)] [] σ := by
  unfold f_X0_put at hf
  refine v_aload_n 0 C dX0_put_0 rfl rfl ?_
  refine v_getR 1 C lk_X0_9 (hB 0 _ rfl) (by decide) rfl dX0_put_1 ?_
  refine v_iload_n 4 C dX0_put_4 rfl rfl ?_
  refine v_iload_n 5 C dX0_put_5 rfl rfl ?_
  refine v_iast 6 C (hB 1 _ rfl) dX0_put_6 hf (fun s1 hf => ?_)
  refine v_aload_n 7 C dX0_put_7 rfl rfl ?_
  refine v_getR 8 C lk_X0_15 (hB 0 _ rfl) (by decide) rfl dX0_put_8 ?_
  refine v_iload_n 11 C dX0_put_11 rfl rfl ?_
  refine v_iload_n 12 C dX0_put_12 rfl rfl ?_
  refine v_iast 13 C (hB 2 _ rfl) dX0_put_13 hf (fun s2 hf => ?_)
  refine v_aload_n 14 C dX0_put_14 rfl rfl ?_
  refine v_getR 15 C lk_X0_18 (hB 0 _ rfl) (by decide) rfl dX0_put_15 ?_
  refine v_iload_n 18 C dX0_put_18 rfl rfl ?_
  refine v_iload 19 C dX0_put_19 rfl ?_
  refine v_iast 21 C (hB 3 _ rfl) dX0_put_21 hf (fun s3 hf => ?_)
  refine v_aload_n 22 C dX0_put_22 rfl rfl ?_
  refine v_getR 23 C lk_X0_21 (hB 0 _ rfl) (by decide) rfl dX0_put_23 ?_
  refine v_iload_n 26 C dX0_put_26 rfl rfl ?_
  refine v_iconst (v := 1) 27 C dX0_put_27 (by decide) ?_
  refine v_zast 28 C (hB 4 _ rfl) dX0_put_28 hf (fun s4 hf => ?_)
  exact v_ret (r := 0) 29 C rfl dX0_put_29 hf
theorem m_X0_put {l : Launch} {E : En} {L : List Nat} (k : Nat) (hB : Bk L sh_Board k) (x1 : Int32) (x2 : Int32) (x3 : Int32) (x4 : Int32) (σ : Sg) (o : Int32 × Sg) (hf : f_X0_put k x1 x2 x3 x4 σ = some o) : Mi l yX0_put cX0_put 5 none (1) E L [.ref (E.2.1 (k)), .int x1, .int x2, .int x3, .int x4] σ o :=
  Mi.of RX0 rfl (by decide) (Nat.le_of_ble_eq_true rfl) (fun q hq C => by subst hq; exact k_X0_put_b0 C k hB x1 x2 x3 x4 σ hf)
def f_X0_takeUp (k : Nat) (x1 : Int32) (σ : Sg) : Rs := p_rd σ (k + 1) 16 x1 (fun v1 => if v1 = (-1) then (some (v1, σ)) else (p_wr σ (k + 4) 16 v1 (nz 0) (fun s2 => p_wr s2 (k + 1) 16 x1 (-1) (fun s3 => some (v1, s3)))))
set_option maxRecDepth 100000 in
set_option maxHeartbeats 4000000 in
theorem k_X0_takeUp_b0 {q : Mc} {E : En} {L : List Nat} {o : Int32 × Sg} (C : Cx q E L cX0_takeUp 3 RX0 (some .int) (1)) (k : Nat) (hB : Bk L sh_Board k) (x1 : Int32) (σ : Sg) (hf : f_X0_takeUp k x1 σ = some o) : Vx q E L 3 (some .int) o 0 [(0, .ref (E.2.1 (k))), (1, .int x1)] [] σ := by
  unfold f_X0_takeUp at hf
  refine v_aload_n 0 C dX0_takeUp_0 rfl rfl ?_
  refine v_getR 1 C lk_X0_9 (hB 0 _ rfl) (by decide) rfl dX0_takeUp_1 ?_
  refine v_iload_n 4 C dX0_takeUp_4 rfl rfl ?_
  refine v_iald 5 C (hB 1 _ rfl) dX0_takeUp_5 hf (fun v1 hf => ?_)
  refine v_istore_n (lv' := [(0, .ref (E.2.1 (k))), (1, .int x1), (2, .int v1)]) 6 C dX0_takeUp_6 rfl (by decide) rfl rfl ?_
  refine v_iload_n 7 C dX0_takeUp_7 rfl rfl ?_
  refine v_iconst (v := (-1)) 8 C dX0_takeUp_8 (by decide) ?_
  refine v_icmp_eq (tgt := 26) 9 C dX0_takeUp_9 (by decide) hf (fun hf => ?_) (fun hf => ?_)
  · refine v_iload_n 26 C dX0_takeUp_26 rfl rfl ?_
    exact v_iret 27 C rfl dX0_takeUp_27 hf
  · refine v_aload_n 12 C dX0_takeUp_12 rfl rfl ?_
    refine v_getR 13 C lk_X0_21 (hB 0 _ rfl) (by decide) rfl dX0_takeUp_13 ?_
    refine v_iload_n 16 C dX0_takeUp_16 rfl rfl ?_
    refine v_iconst (v := 0) 17 C dX0_takeUp_17 (by decide) ?_
    refine v_zast 18 C (hB 4 _ rfl) dX0_takeUp_18 hf (fun s2 hf => ?_)
    refine v_aload_n 19 C dX0_takeUp_19 rfl rfl ?_
    refine v_getR 20 C lk_X0_9 (hB 0 _ rfl) (by decide) rfl dX0_takeUp_20 ?_
    refine v_iload_n 23 C dX0_takeUp_23 rfl rfl ?_
    refine v_iconst (v := (-1)) 24 C dX0_takeUp_24 (by decide) ?_
    refine v_iast 25 C (hB 1 _ rfl) dX0_takeUp_25 hf (fun s3 hf => ?_)
    refine v_iload_n 26 C dX0_takeUp_26 rfl rfl ?_
    exact v_iret 27 C rfl dX0_takeUp_27 hf
theorem m_X0_takeUp {l : Launch} {E : En} {L : List Nat} (k : Nat) (hB : Bk L sh_Board k) (x1 : Int32) (σ : Sg) (o : Int32 × Sg) (hf : f_X0_takeUp k x1 σ = some o) : Mi l yX0_takeUp cX0_takeUp 3 (some .int) (1) E L [.ref (E.2.1 (k)), .int x1] σ o :=
  Mi.of RX0 rfl (by decide) (Nat.le_of_ble_eq_true rfl) (fun q hq C => by subst hq; exact k_X0_takeUp_b0 C k hB x1 σ hf)
def f_X0_takeAway_b24 (k : Nat) (r2 : Int32 → Int32 → Sg → Rs) (x1 : Int32) (x2 : Int32) (σ : Sg) : Rs := r2 x1 (x2 + 1) σ
set_option maxRecDepth 100000 in
set_option maxHeartbeats 4000000 in
theorem k_X0_takeAway_b24 {q : Mc} {E : En} {L : List Nat} {o : Int32 × Sg} (C : Cx q E L cX0_takeAway 3 RX0 none (2)) (k : Nat) (hB : Bk L sh_Board k) (r2 : Int32 → Int32 → Sg → Rs) (hr2 : ∀ (x1 : Int32) (x2 : Int32) (σ : Sg), r2 x1 x2 σ = some o → Vx q E L 3 none o 2 [(0, .ref (E.2.1 (k))), (1, .int x1), (2, .int x2)] [] σ) (x1 : Int32) (x2 : Int32) (σ : Sg) (hf : f_X0_takeAway_b24 k r2 x1 x2 σ = some o) : Vx q E L 3 none o 24 [(0, .ref (E.2.1 (k))), (1, .int x1), (2, .int x2)] [] σ := by
  unfold f_X0_takeAway_b24 at hf
  refine v_iinc (v := x2 + 1) (lv' := [(0, .ref (E.2.1 (k))), (1, .int x1), (2, .int (x2 + 1))]) 24 C dX0_takeAway_24 rfl (by rfl) (by decide) rfl rfl ?_
  refine v_goto (tgt := 2) 27 C dX0_takeAway_27 (by decide) ?_
  exact Vx.lv [0, 1, 2] rfl (hr2 x1 (x2 + 1) σ hf)
def f_X0_takeAway_b2 (k : Nat)  : Nat → Int32 → Int32 → Sg → Rs
  | 0, _, _, _ => none
  | n + 1, x1, x2, σ => if 16 ≤ x2 then (some (0, σ)) else (p_rd σ (k + 1) 16 x2 (fun v1 => if v1 = x1 then (p_call (f_X0_takeUp k x2 σ) (fun v2 s3 => f_X0_takeAway_b24 k (f_X0_takeAway_b2 k n) x1 x2 s3)) else (f_X0_takeAway_b24 k (f_X0_takeAway_b2 k n) x1 x2 σ)))
set_option maxRecDepth 100000 in
set_option maxHeartbeats 4000000 in
theorem k_X0_takeAway_b2 {q : Mc} {E : En} {L : List Nat} {o : Int32 × Sg} (C : Cx q E L cX0_takeAway 3 RX0 none (2)) (k : Nat) (hB : Bk L sh_Board k) (n : Nat) : ∀ (x1 : Int32) (x2 : Int32) (σ : Sg), f_X0_takeAway_b2 k n x1 x2 σ = some o → Vx q E L 3 none o 2 [(0, .ref (E.2.1 (k))), (1, .int x1), (2, .int x2)] [] σ := by
  induction n with
  | zero => intro x1 x2 σ hf; cases (show (none : Rs) = some o from hf)
  | succ n ih =>
    intro x1 x2 σ hf
    rw [f_X0_takeAway_b2] at hf
    refine v_iload_n 2 C dX0_takeAway_2 rfl rfl ?_
    refine v_bipush (v := 16) 3 C dX0_takeAway_3 (by decide) ?_
    refine v_icmp_ge (tgt := 30) 5 C dX0_takeAway_5 (by decide) hf (fun hf => ?_) (fun hf => ?_)
    · exact v_ret (r := 0) 30 C rfl dX0_takeAway_30 hf
    · refine v_aload_n 8 C dX0_takeAway_8 rfl rfl ?_
      refine v_getR 9 C lk_X0_9 (hB 0 _ rfl) (by decide) rfl dX0_takeAway_9 ?_
      refine v_iload_n 12 C dX0_takeAway_12 rfl rfl ?_
      refine v_iald 13 C (hB 1 _ rfl) dX0_takeAway_13 hf (fun v1 hf => ?_)
      refine v_iload_n 14 C dX0_takeAway_14 rfl rfl ?_
      refine v_icmp_ne (tgt := 24) 15 C dX0_takeAway_15 (by decide) hf (fun hf => ?_) (fun hf => ?_)
      · exact Vx.lv [0, 1, 2] rfl (k_X0_takeAway_b24 C k hB (f_X0_takeAway_b2 k n) ih x1 x2 σ hf)
      · refine v_aload_n 18 C dX0_takeAway_18 rfl rfl ?_
        refine v_iload_n 19 C dX0_takeAway_19 rfl rfl ?_
        refine v_callV (st := []) 20 C [.int x2] lm_X0_28 ly_X0_takeUp (hB 0 _ rfl) (by decide) dX0_takeAway_20 rfl (by decide) rfl (Nat.le_of_ble_eq_true rfl) (fun o1 h1 => m_X0_takeUp k hB x2 σ o1 h1) hf (fun v2 s3 hf => ?_)
        refine v_pop 23 C dX0_takeAway_23 rfl ?_
        exact Vx.lv [0, 1, 2] rfl (k_X0_takeAway_b24 C k hB (f_X0_takeAway_b2 k n) ih x1 x2 s3 hf)
def f_X0_takeAway (k : Nat) (x1 : Int32) (σ : Sg) : Rs := f_X0_takeAway_b2 k fu x1 0 σ
set_option maxRecDepth 100000 in
set_option maxHeartbeats 4000000 in
theorem k_X0_takeAway_b0 {q : Mc} {E : En} {L : List Nat} {o : Int32 × Sg} (C : Cx q E L cX0_takeAway 3 RX0 none (2)) (k : Nat) (hB : Bk L sh_Board k) (x1 : Int32) (σ : Sg) (hf : f_X0_takeAway k x1 σ = some o) : Vx q E L 3 none o 0 [(0, .ref (E.2.1 (k))), (1, .int x1)] [] σ := by
  unfold f_X0_takeAway at hf
  refine v_iconst (v := 0) 0 C dX0_takeAway_0 (by decide) ?_
  refine v_istore_n (lv' := [(0, .ref (E.2.1 (k))), (1, .int x1), (2, .int 0)]) 1 C dX0_takeAway_1 rfl (by decide) rfl rfl ?_
  exact Vx.lv [0, 1, 2] rfl (k_X0_takeAway_b2 C k hB fu x1 0 σ hf)
theorem m_X0_takeAway {l : Launch} {E : En} {L : List Nat} (k : Nat) (hB : Bk L sh_Board k) (x1 : Int32) (σ : Sg) (o : Int32 × Sg) (hf : f_X0_takeAway k x1 σ = some o) : Mi l yX0_takeAway cX0_takeAway 3 none (2) E L [.ref (E.2.1 (k)), .int x1] σ o :=
  Mi.of RX0 rfl (by decide) (Nat.le_of_ble_eq_true rfl) (fun q hq C => by subst hq; exact k_X0_takeAway_b0 C k hB x1 σ hf)
def f_X0_laidBy_b31 (k : Nat) (r4 : Int32 → Int32 → Int32 → Sg → Rs) (x1 : Int32) (x2 : Int32) (x3 : Int32) (σ : Sg) : Rs := r4 x1 x2 (x3 + 1) σ
set_option maxRecDepth 100000 in
set_option maxHeartbeats 4000000 in
theorem k_X0_laidBy_b31 {q : Mc} {E : En} {L : List Nat} {o : Int32 × Sg} (C : Cx q E L cX0_laidBy 4 RX0 (some .int) (2)) (k : Nat) (hB : Bk L sh_Board k) (r4 : Int32 → Int32 → Int32 → Sg → Rs) (hr4 : ∀ (x1 : Int32) (x2 : Int32) (x3 : Int32) (σ : Sg), r4 x1 x2 x3 σ = some o → Vx q E L 4 (some .int) o 4 [(0, .ref (E.2.1 (k))), (1, .int x1), (2, .int x2), (3, .int x3)] [] σ) (x1 : Int32) (x2 : Int32) (x3 : Int32) (σ : Sg) (hf : f_X0_laidBy_b31 k r4 x1 x2 x3 σ = some o) : Vx q E L 4 (some .int) o 31 [(0, .ref (E.2.1 (k))), (1, .int x1), (2, .int x2), (3, .int x3)] [] σ := by
  unfold f_X0_laidBy_b31 at hf
  refine v_iinc (v := x3 + 1) (lv' := [(0, .ref (E.2.1 (k))), (1, .int x1), (2, .int x2), (3, .int (x3 + 1))]) 31 C dX0_laidBy_31 rfl (by rfl) (by decide) rfl rfl ?_
  refine v_goto (tgt := 4) 34 C dX0_laidBy_34 (by decide) ?_
  exact Vx.lv [0, 1, 2, 3] rfl (hr4 x1 x2 (x3 + 1) σ hf)
def f_X0_laidBy_b4 (k : Nat)  : Nat → Int32 → Int32 → Int32 → Sg → Rs
  | 0, _, _, _, _ => none
  | n + 1, x1, x2, x3, σ => if 16 ≤ x3 then (some (x2, σ)) else (p_call (f_X0_isFilled k x3 σ) (fun v1 s2 => if v1 = 0 then (f_X0_laidBy_b31 k (f_X0_laidBy_b4 k n) x1 x2 x3 s2) else (p_rd s2 (k + 3) 16 x3 (fun v3 => if v3 = x1 then (f_X0_laidBy_b31 k (f_X0_laidBy_b4 k n) x1 (x2 + 1) x3 s2) else (f_X0_laidBy_b31 k (f_X0_laidBy_b4 k n) x1 x2 x3 s2)))))
set_option maxRecDepth 100000 in
set_option maxHeartbeats 4000000 in
theorem k_X0_laidBy_b4 {q : Mc} {E : En} {L : List Nat} {o : Int32 × Sg} (C : Cx q E L cX0_laidBy 4 RX0 (some .int) (2)) (k : Nat) (hB : Bk L sh_Board k) (n : Nat) : ∀ (x1 : Int32) (x2 : Int32) (x3 : Int32) (σ : Sg), f_X0_laidBy_b4 k n x1 x2 x3 σ = some o → Vx q E L 4 (some .int) o 4 [(0, .ref (E.2.1 (k))), (1, .int x1), (2, .int x2), (3, .int x3)] [] σ := by
  induction n with
  | zero => intro x1 x2 x3 σ hf; cases (show (none : Rs) = some o from hf)
  | succ n ih =>
    intro x1 x2 x3 σ hf
    rw [f_X0_laidBy_b4] at hf
    refine v_iload_n 4 C dX0_laidBy_4 rfl rfl ?_
    refine v_bipush (v := 16) 5 C dX0_laidBy_5 (by decide) ?_
    refine v_icmp_ge (tgt := 37) 7 C dX0_laidBy_7 (by decide) hf (fun hf => ?_) (fun hf => ?_)
    · refine v_iload_n 37 C dX0_laidBy_37 rfl rfl ?_
      exact v_iret 38 C rfl dX0_laidBy_38 hf
    · refine v_aload_n 10 C dX0_laidBy_10 rfl rfl ?_
      refine v_iload_n 11 C dX0_laidBy_11 rfl rfl ?_
      refine v_callV (st := []) 12 C [.int x3] lm_X0_32 ly_X0_isFilled (hB 0 _ rfl) (by decide) dX0_laidBy_12 rfl (by decide) rfl (Nat.le_of_ble_eq_true rfl) (fun o1 h1 => m_X0_isFilled k hB x3 σ o1 h1) hf (fun v1 s2 hf => ?_)
      refine v_if_eq (tgt := 31) 15 C dX0_laidBy_15 (by decide) hf (fun hf => ?_) (fun hf => ?_)
      · exact Vx.lv [0, 1, 2, 3] rfl (k_X0_laidBy_b31 C k hB (f_X0_laidBy_b4 k n) ih x1 x2 x3 s2 hf)
      · refine v_aload_n 18 C dX0_laidBy_18 rfl rfl ?_
        refine v_getR 19 C lk_X0_18 (hB 0 _ rfl) (by decide) rfl dX0_laidBy_19 ?_
        refine v_iload_n 22 C dX0_laidBy_22 rfl rfl ?_
        refine v_iald 23 C (hB 3 _ rfl) dX0_laidBy_23 hf (fun v3 hf => ?_)
        refine v_iload_n 24 C dX0_laidBy_24 rfl rfl ?_
        refine v_icmp_ne (tgt := 31) 25 C dX0_laidBy_25 (by decide) hf (fun hf => ?_) (fun hf => ?_)
        · exact Vx.lv [0, 1, 2, 3] rfl (k_X0_laidBy_b31 C k hB (f_X0_laidBy_b4 k n) ih x1 x2 x3 s2 hf)
        · refine v_iinc (v := x2 + 1) (lv' := [(0, .ref (E.2.1 (k))), (1, .int x1), (2, .int (x2 + 1)), (3, .int x3)]) 28 C dX0_laidBy_28 rfl (by rfl) (by decide) rfl rfl ?_
          exact Vx.lv [0, 1, 2, 3] rfl (k_X0_laidBy_b31 C k hB (f_X0_laidBy_b4 k n) ih x1 (x2 + 1) x3 s2 hf)
def f_X0_laidBy (k : Nat) (x1 : Int32) (σ : Sg) : Rs := f_X0_laidBy_b4 k fu x1 0 0 σ
set_option maxRecDepth 100000 in
set_option maxHeartbeats 4000000 in
theorem k_X0_laidBy_b0 {q : Mc} {E : En} {L : List Nat} {o : Int32 × Sg} (C : Cx q E L cX0_laidBy 4 RX0 (some .int) (2)) (k : Nat) (hB : Bk L sh_Board k) (x1 : Int32) (σ : Sg) (hf : f_X0_laidBy k x1 σ = some o) : Vx q E L 4 (some .int) o 0 [(0, .ref (E.2.1 (k))), (1, .int x1)] [] σ := by
  unfold f_X0_laidBy at hf
  refine v_iconst (v := 0) 0 C dX0_laidBy_0 (by decide) ?_
  refine v_istore_n (lv' := [(0, .ref (E.2.1 (k))), (1, .int x1), (2, .int 0)]) 1 C dX0_laidBy_1 rfl (by decide) rfl rfl ?_
  refine v_iconst (v := 0) 2 C dX0_laidBy_2 (by decide) ?_
  refine v_istore_n (lv' := [(0, .ref (E.2.1 (k))), (1, .int x1), (2, .int 0), (3, .int 0)]) 3 C dX0_laidBy_3 rfl (by decide) rfl rfl ?_
  exact Vx.lv [0, 1, 2, 3] rfl (k_X0_laidBy_b4 C k hB fu x1 0 0 σ hf)
theorem m_X0_laidBy {l : Launch} {E : En} {L : List Nat} (k : Nat) (hB : Bk L sh_Board k) (x1 : Int32) (σ : Sg) (o : Int32 × Sg) (hf : f_X0_laidBy k x1 σ = some o) : Mi l yX0_laidBy cX0_laidBy 4 (some .int) (2) E L [.ref (E.2.1 (k)), .int x1] σ o :=
  Mi.of RX0 rfl (by decide) (Nat.le_of_ble_eq_true rfl) (fun q hq C => by subst hq; exact k_X0_laidBy_b0 C k hB x1 σ hf)
def f_X0_howManyFilled_b21 (k : Nat) (r4 : Int32 → Int32 → Sg → Rs) (x1 : Int32) (x2 : Int32) (σ : Sg) : Rs := r4 x1 (x2 + 1) σ
set_option maxRecDepth 100000 in
set_option maxHeartbeats 4000000 in
theorem k_X0_howManyFilled_b21 {q : Mc} {E : En} {L : List Nat} {o : Int32 × Sg} (C : Cx q E L cX0_howManyFilled 3 RX0 (some .int) (2)) (k : Nat) (hB : Bk L sh_Board k) (r4 : Int32 → Int32 → Sg → Rs) (hr4 : ∀ (x1 : Int32) (x2 : Int32) (σ : Sg), r4 x1 x2 σ = some o → Vx q E L 3 (some .int) o 4 [(0, .ref (E.2.1 (k))), (1, .int x1), (2, .int x2)] [] σ) (x1 : Int32) (x2 : Int32) (σ : Sg) (hf : f_X0_howManyFilled_b21 k r4 x1 x2 σ = some o) : Vx q E L 3 (some .int) o 21 [(0, .ref (E.2.1 (k))), (1, .int x1), (2, .int x2)] [] σ := by
  unfold f_X0_howManyFilled_b21 at hf
  refine v_iinc (v := x2 + 1) (lv' := [(0, .ref (E.2.1 (k))), (1, .int x1), (2, .int (x2 + 1))]) 21 C dX0_howManyFilled_21 rfl (by rfl) (by decide) rfl rfl ?_
  refine v_goto (tgt := 4) 24 C dX0_howManyFilled_24 (by decide) ?_
  exact Vx.lv [0, 1, 2] rfl (hr4 x1 (x2 + 1) σ hf)
def f_X0_howManyFilled_b4 (k : Nat)  : Nat → Int32 → Int32 → Sg → Rs
  | 0, _, _, _ => none
  | n + 1, x1, x2, σ => if 16 ≤ x2 then (some (x1, σ)) else (p_call (f_X0_isFilled k x2 σ) (fun v1 s2 => if v1 = 0 then (f_X0_howManyFilled_b21 k (f_X0_howManyFilled_b4 k n) x1 x2 s2) else (f_X0_howManyFilled_b21 k (f_X0_howManyFilled_b4 k n) (x1 + 1) x2 s2)))
set_option maxRecDepth 100000 in
set_option maxHeartbeats 4000000 in
theorem k_X0_howManyFilled_b4 {q : Mc} {E : En} {L : List Nat} {o : Int32 × Sg} (C : Cx q E L cX0_howManyFilled 3 RX0 (some .int) (2)) (k : Nat) (hB : Bk L sh_Board k) (n : Nat) : ∀ (x1 : Int32) (x2 : Int32) (σ : Sg), f_X0_howManyFilled_b4 k n x1 x2 σ = some o → Vx q E L 3 (some .int) o 4 [(0, .ref (E.2.1 (k))), (1, .int x1), (2, .int x2)] [] σ := by
  induction n with
  | zero => intro x1 x2 σ hf; cases (show (none : Rs) = some o from hf)
  | succ n ih =>
    intro x1 x2 σ hf
    rw [f_X0_howManyFilled_b4] at hf
    refine v_iload_n 4 C dX0_howManyFilled_4 rfl rfl ?_
    refine v_bipush (v := 16) 5 C dX0_howManyFilled_5 (by decide) ?_
    refine v_icmp_ge (tgt := 27) 7 C dX0_howManyFilled_7 (by decide) hf (fun hf => ?_) (fun hf => ?_)
    · refine v_iload_n 27 C dX0_howManyFilled_27 rfl rfl ?_
      exact v_iret 28 C rfl dX0_howManyFilled_28 hf
    · refine v_aload_n 10 C dX0_howManyFilled_10 rfl rfl ?_
      refine v_iload_n 11 C dX0_howManyFilled_11 rfl rfl ?_
      refine v_callV (st := []) 12 C [.int x2] lm_X0_32 ly_X0_isFilled (hB 0 _ rfl) (by decide) dX0_howManyFilled_12 rfl (by decide) rfl (Nat.le_of_ble_eq_true rfl) (fun o1 h1 => m_X0_isFilled k hB x2 σ o1 h1) hf (fun v1 s2 hf => ?_)
      refine v_if_eq (tgt := 21) 15 C dX0_howManyFilled_15 (by decide) hf (fun hf => ?_) (fun hf => ?_)
      · exact Vx.lv [0, 1, 2] rfl (k_X0_howManyFilled_b21 C k hB (f_X0_howManyFilled_b4 k n) ih x1 x2 s2 hf)
      · refine v_iinc (v := x1 + 1) (lv' := [(0, .ref (E.2.1 (k))), (1, .int (x1 + 1)), (2, .int x2)]) 18 C dX0_howManyFilled_18 rfl (by rfl) (by decide) rfl rfl ?_
        exact Vx.lv [0, 1, 2] rfl (k_X0_howManyFilled_b21 C k hB (f_X0_howManyFilled_b4 k n) ih (x1 + 1) x2 s2 hf)
def f_X0_howManyFilled (k : Nat) (σ : Sg) : Rs := f_X0_howManyFilled_b4 k fu 0 0 σ
set_option maxRecDepth 100000 in
set_option maxHeartbeats 4000000 in
theorem k_X0_howManyFilled_b0 {q : Mc} {E : En} {L : List Nat} {o : Int32 × Sg} (C : Cx q E L cX0_howManyFilled 3 RX0 (some .int) (2)) (k : Nat) (hB : Bk L sh_Board k) (σ : Sg) (hf : f_X0_howManyFilled k σ = some o) : Vx q E L 3 (some .int) o 0 [(0, .ref (E.2.1 (k)))] [] σ := by
  unfold f_X0_howManyFilled at hf
  refine v_iconst (v := 0) 0 C dX0_howManyFilled_0 (by decide) ?_
  refine v_istore_n (lv' := [(0, .ref (E.2.1 (k))), (1, .int 0)]) 1 C dX0_howManyFilled_1 rfl (by decide) rfl rfl ?_
  refine v_iconst (v := 0) 2 C dX0_howManyFilled_2 (by decide) ?_
  refine v_istore_n (lv' := [(0, .ref (E.2.1 (k))), (1, .int 0), (2, .int 0)]) 3 C dX0_howManyFilled_3 rfl (by decide) rfl rfl ?_
  exact Vx.lv [0, 1, 2] rfl (k_X0_howManyFilled_b4 C k hB fu 0 0 σ hf)
theorem m_X0_howManyFilled {l : Launch} {E : En} {L : List Nat} (k : Nat) (hB : Bk L sh_Board k) (σ : Sg) (o : Int32 × Sg) (hf : f_X0_howManyFilled k σ = some o) : Mi l yX0_howManyFilled cX0_howManyFilled 3 (some .int) (2) E L [.ref (E.2.1 (k))] σ o :=
  Mi.of RX0 rfl (by decide) (Nat.le_of_ble_eq_true rfl) (fun q hq C => by subst hq; exact k_X0_howManyFilled_b0 C k hB  σ hf)
def f_X0_howManyLost_b22 (k : Nat) (r4 : Int32 → Int32 → Sg → Rs) (x1 : Int32) (x2 : Int32) (σ : Sg) : Rs := r4 x1 (x2 + 1) σ
set_option maxRecDepth 100000 in
set_option maxHeartbeats 4000000 in
theorem k_X0_howManyLost_b22 {q : Mc} {E : En} {L : List Nat} {o : Int32 × Sg} (C : Cx q E L cX0_howManyLost 3 RX0 (some .int) (1)) (k : Nat) (hB : Bk L sh_Board k) (r4 : Int32 → Int32 → Sg → Rs) (hr4 : ∀ (x1 : Int32) (x2 : Int32) (σ : Sg), r4 x1 x2 σ = some o → Vx q E L 3 (some .int) o 4 [(0, .ref (E.2.1 (k))), (1, .int x1), (2, .int x2)] [] σ) (x1 : Int32) (x2 : Int32) (σ : Sg) (hf : f_X0_howManyLost_b22 k r4 x1 x2 σ = some o) : Vx q E L 3 (some .int) o 22 [(0, .ref (E.2.1 (k))), (1, .int x1), (2, .int x2)] [] σ := by
  unfold f_X0_howManyLost_b22 at hf
  refine v_iinc (v := x2 + 1) (lv' := [(0, .ref (E.2.1 (k))), (1, .int x1), (2, .int (x2 + 1))]) 22 C dX0_howManyLost_22 rfl (by rfl) (by decide) rfl rfl ?_
  refine v_goto (tgt := 4) 25 C dX0_howManyLost_25 (by decide) ?_
  exact Vx.lv [0, 1, 2] rfl (hr4 x1 (x2 + 1) σ hf)
def f_X0_howManyLost_b4 (k : Nat)  : Nat → Int32 → Int32 → Sg → Rs
  | 0, _, _, _ => none
  | n + 1, x1, x2, σ => if 16 ≤ x2 then (some (x1, σ)) else (p_rd σ (k + 5) 16 x2 (fun v1 => if v1 = 0 then (f_X0_howManyLost_b22 k (f_X0_howManyLost_b4 k n) x1 x2 σ) else (f_X0_howManyLost_b22 k (f_X0_howManyLost_b4 k n) (x1 + 1) x2 σ)))
set_option maxRecDepth 100000 in
set_option maxHeartbeats 4000000 in
theorem k_X0_howManyLost_b4 {q : Mc} {E : En} {L : List Nat} {o : Int32 × Sg} (C : Cx q E L cX0_howManyLost 3 RX0 (some .int) (1)) (k : Nat) (hB : Bk L sh_Board k) (n : Nat) : ∀ (x1 : Int32) (x2 : Int32) (σ : Sg), f_X0_howManyLost_b4 k n x1 x2 σ = some o → Vx q E L 3 (some .int) o 4 [(0, .ref (E.2.1 (k))), (1, .int x1), (2, .int x2)] [] σ := by
  induction n with
  | zero => intro x1 x2 σ hf; cases (show (none : Rs) = some o from hf)
  | succ n ih =>
    intro x1 x2 σ hf
    rw [f_X0_howManyLost_b4] at hf
    refine v_iload_n 4 C dX0_howManyLost_4 rfl rfl ?_
    refine v_bipush (v := 16) 5 C dX0_howManyLost_5 (by decide) ?_
    refine v_icmp_ge (tgt := 28) 7 C dX0_howManyLost_7 (by decide) hf (fun hf => ?_) (fun hf => ?_)
    · refine v_iload_n 28 C dX0_howManyLost_28 rfl rfl ?_
      exact v_iret 29 C rfl dX0_howManyLost_29 hf
    · refine v_aload_n 10 C dX0_howManyLost_10 rfl rfl ?_
      refine v_getR 11 C lk_X0_25 (hB 0 _ rfl) (by decide) rfl dX0_howManyLost_11 ?_
      refine v_iload_n 14 C dX0_howManyLost_14 rfl rfl ?_
      refine v_zald 15 C (hB 5 _ rfl) dX0_howManyLost_15 hf (fun v1 hf => ?_)
      refine v_if_eq (tgt := 22) 16 C dX0_howManyLost_16 (by decide) hf (fun hf => ?_) (fun hf => ?_)
      · exact Vx.lv [0, 1, 2] rfl (k_X0_howManyLost_b22 C k hB (f_X0_howManyLost_b4 k n) ih x1 x2 σ hf)
      · refine v_iinc (v := x1 + 1) (lv' := [(0, .ref (E.2.1 (k))), (1, .int (x1 + 1)), (2, .int x2)]) 19 C dX0_howManyLost_19 rfl (by rfl) (by decide) rfl rfl ?_
        exact Vx.lv [0, 1, 2] rfl (k_X0_howManyLost_b22 C k hB (f_X0_howManyLost_b4 k n) ih (x1 + 1) x2 σ hf)
def f_X0_howManyLost (k : Nat) (σ : Sg) : Rs := f_X0_howManyLost_b4 k fu 0 0 σ
set_option maxRecDepth 100000 in
set_option maxHeartbeats 4000000 in
theorem k_X0_howManyLost_b0 {q : Mc} {E : En} {L : List Nat} {o : Int32 × Sg} (C : Cx q E L cX0_howManyLost 3 RX0 (some .int) (1)) (k : Nat) (hB : Bk L sh_Board k) (σ : Sg) (hf : f_X0_howManyLost k σ = some o) : Vx q E L 3 (some .int) o 0 [(0, .ref (E.2.1 (k)))] [] σ := by
  unfold f_X0_howManyLost at hf
  refine v_iconst (v := 0) 0 C dX0_howManyLost_0 (by decide) ?_
  refine v_istore_n (lv' := [(0, .ref (E.2.1 (k))), (1, .int 0)]) 1 C dX0_howManyLost_1 rfl (by decide) rfl rfl ?_
  refine v_iconst (v := 0) 2 C dX0_howManyLost_2 (by decide) ?_
  refine v_istore_n (lv' := [(0, .ref (E.2.1 (k))), (1, .int 0), (2, .int 0)]) 3 C dX0_howManyLost_3 rfl (by decide) rfl rfl ?_
  exact Vx.lv [0, 1, 2] rfl (k_X0_howManyLost_b4 C k hB fu 0 0 σ hf)
theorem m_X0_howManyLost {l : Launch} {E : En} {L : List Nat} (k : Nat) (hB : Bk L sh_Board k) (σ : Sg) (o : Int32 × Sg) (hf : f_X0_howManyLost k σ = some o) : Mi l yX0_howManyLost cX0_howManyLost 3 (some .int) (1) E L [.ref (E.2.1 (k))] σ o :=
  Mi.of RX0 rfl (by decide) (Nat.le_of_ble_eq_true rfl) (fun q hq C => by subst hq; exact k_X0_howManyLost_b0 C k hB  σ hf)
def f_X0_copyFrom_b2 (k k1 : Nat)  : Nat → Int32 → Sg → Rs
  | 0, _, _ => none
  | n + 1, x2, σ => if 16 ≤ x2 then (some (0, σ)) else (p_rd σ (k1 + 1) 16 x2 (fun v1 => p_wr σ (k + 1) 16 x2 v1 (fun s2 => p_rd s2 (k1 + 2) 16 x2 (fun v3 => p_wr s2 (k + 2) 16 x2 v3 (fun s4 => p_rd s4 (k1 + 3) 16 x2 (fun v5 => p_wr s4 (k + 3) 16 x2 v5 (fun s6 => p_rd s6 (k1 + 4) 16 x2 (fun v7 => p_wr s6 (k + 4) 16 x2 (nz v7) (fun s8 => p_rd s8 (k1 + 5) 16 x2 (fun v9 => p_wr s8 (k + 5) 16 x2 (nz v9) (fun s10 => f_X0_copyFrom_b2 k k1 n (x2 + 1) s10)))))))))))
set_option maxRecDepth 100000 in
set_option maxHeartbeats 4000000 in
theorem k_X0_copyFrom_b2 {q : Mc} {E : En} {L : List Nat} {o : Int32 × Sg} (C : Cx q E L cX0_copyFrom 3 RX0 none (1)) (k k1 : Nat) (hB : Bk L sh_Board k) (hB1 : Bk L sh_Board k1) (n : Nat) : ∀ (x2 : Int32) (σ : Sg), f_X0_copyFrom_b2 k k1 n x2 σ = some o → Vx q E L 3 none o 2 [(0, .ref (E.2.1 (k))), (1, .ref (E.2.1 (k1))), (2, .int x2)] [] σ := by
  induction n with
  | zero => intro x2 σ hf; cases (show (none : Rs) = some o from hf)
  | succ n ih =>
    intro x2 σ hf
    rw [f_X0_copyFrom_b2] at hf
    refine v_iload_n 2 C dX0_copyFrom_2 rfl rfl ?_
    refine v_bipush (v := 16) 3 C dX0_copyFrom_3 (by decide) ?_
    refine v_icmp_ge (tgt := 74) 5 C dX0_copyFrom_5 (by decide) hf (fun hf => ?_) (fun hf => ?_)
    · exact v_ret (r := 0) 74 C rfl dX0_copyFrom_74 hf
    · refine v_aload_n 8 C dX0_copyFrom_8 rfl rfl ?_
      refine v_getR 9 C lk_X0_9 (hB 0 _ rfl) (by decide) rfl dX0_copyFrom_9 ?_
      refine v_iload_n 12 C dX0_copyFrom_12 rfl rfl ?_
      refine v_aload_n 13 C dX0_copyFrom_13 rfl rfl ?_
      refine v_getR 14 C lk_X0_9 (hB1 0 _ rfl) (by decide) rfl dX0_copyFrom_14 ?_
      refine v_iload_n 17 C dX0_copyFrom_17 rfl rfl ?_
      refine v_iald 18 C (hB1 1 _ rfl) dX0_copyFrom_18 hf (fun v1 hf => ?_)
      refine v_iast 19 C (hB 1 _ rfl) dX0_copyFrom_19 hf (fun s2 hf => ?_)
      refine v_aload_n 20 C dX0_copyFrom_20 rfl rfl ?_
      refine v_getR 21 C lk_X0_15 (hB 0 _ rfl) (by decide) rfl dX0_copyFrom_21 ?_
      refine v_iload_n 24 C dX0_copyFrom_24 rfl rfl ?_
      refine v_aload_n 25 C dX0_copyFrom_25 rfl rfl ?_
      refine v_getR 26 C lk_X0_15 (hB1 0 _ rfl) (by decide) rfl dX0_copyFrom_26 ?_
      refine v_iload_n 29 C dX0_copyFrom_29 rfl rfl ?_
      refine v_iald 30 C (hB1 2 _ rfl) dX0_copyFrom_30 hf (fun v3 hf => ?_)
      refine v_iast 31 C (hB 2 _ rfl) dX0_copyFrom_31 hf (fun s4 hf => ?_)
      refine v_aload_n 32 C dX0_copyFrom_32 rfl rfl ?_
      refine v_getR 33 C lk_X0_18 (hB 0 _ rfl) (by decide) rfl dX0_copyFrom_33 ?_
      refine v_iload_n 36 C dX0_copyFrom_36 rfl rfl ?_
      refine v_aload_n 37 C dX0_copyFrom_37 rfl rfl ?_
      refine v_getR 38 C lk_X0_18 (hB1 0 _ rfl) (by decide) rfl dX0_copyFrom_38 ?_
      refine v_iload_n 41 C dX0_copyFrom_41 rfl rfl ?_
      refine v_iald 42 C (hB1 3 _ rfl) dX0_copyFrom_42 hf (fun v5 hf => ?_)
      refine v_iast 43 C (hB 3 _ rfl) dX0_copyFrom_43 hf (fun s6 hf => ?_)
      refine v_aload_n 44 C dX0_copyFrom_44 rfl rfl ?_
      refine v_getR 45 C lk_X0_21 (hB 0 _ rfl) (by decide) rfl dX0_copyFrom_45 ?_
      refine v_iload_n 48 C dX0_copyFrom_48 rfl rfl ?_
      refine v_aload_n 49 C dX0_copyFrom_49 rfl rfl ?_
      refine v_getR 50 C lk_X0_21 (hB1 0 _ rfl) (by decide) rfl dX0_copyFrom_50 ?_
      refine v_iload_n 53 C dX0_copyFrom_53 rfl rfl ?_
      refine v_zald 54 C (hB1 4 _ rfl) dX0_copyFrom_54 hf (fun v7 hf => ?_)
      refine v_zast 55 C (hB 4 _ rfl) dX0_copyFrom_55 hf (fun s8 hf => ?_)
      refine v_aload_n 56 C dX0_copyFrom_56 rfl rfl ?_
      refine v_getR 57 C lk_X0_25 (hB 0 _ rfl) (by decide) rfl dX0_copyFrom_57 ?_
      refine v_iload_n 60 C dX0_copyFrom_60 rfl rfl ?_
      refine v_aload_n 61 C dX0_copyFrom_61 rfl rfl ?_
      refine v_getR 62 C lk_X0_25 (hB1 0 _ rfl) (by decide) rfl dX0_copyFrom_62 ?_
      refine v_iload_n 65 C dX0_copyFrom_65 rfl rfl ?_
      refine v_zald 66 C (hB1 5 _ rfl) dX0_copyFrom_66 hf (fun v9 hf => ?_)
      refine v_zast 67 C (hB 5 _ rfl) dX0_copyFrom_67 hf (fun s10 hf => ?_)
      refine v_iinc (v := x2 + 1) (lv' := [(0, .ref (E.2.1 (k))), (1, .ref (E.2.1 (k1))), (2, .int (x2 + 1))]) 68 C dX0_copyFrom_68 rfl (by rfl) (by decide) rfl rfl ?_
      refine v_goto (tgt := 2) 71 C dX0_copyFrom_71 (by decide) ?_
      exact Vx.lv [0, 1, 2] rfl (ih (x2 + 1) s10 hf)
def f_X0_copyFrom (k k1 : Nat) (σ : Sg) : Rs := f_X0_copyFrom_b2 k k1 fu 0 σ
set_option maxRecDepth 100000 in
set_option maxHeartbeats 4000000 in
theorem k_X0_copyFrom_b0 {q : Mc} {E : En} {L : List Nat} {o : Int32 × Sg} (C : Cx q E L cX0_copyFrom 3 RX0 none (1)) (k k1 : Nat) (hB : Bk L sh_Board k) (hB1 : Bk L sh_Board k1) (σ : Sg) (hf : f_X0_copyFrom k k1 σ = some o) : Vx q E L 3 none o 0 [(0, .ref (E.2.1 (k))), (1, .ref (E.2.1 (k1)))] [] σ := by
  unfold f_X0_copyFrom at hf
  refine v_iconst (v := 0) 0 C dX0_copyFrom_0 (by decide) ?_
  refine v_istore_n (lv' := [(0, .ref (E.2.1 (k))), (1, .ref (E.2.1 (k1))), (2, .int 0)]) 1 C dX0_copyFrom_1 rfl (by decide) rfl rfl ?_
  exact Vx.lv [0, 1, 2] rfl (k_X0_copyFrom_b2 C k k1 hB hB1 fu 0 σ hf)
theorem m_X0_copyFrom {l : Launch} {E : En} {L : List Nat} (k k1 : Nat) (hB : Bk L sh_Board k) (hB1 : Bk L sh_Board k1) (σ : Sg) (o : Int32 × Sg) (hf : f_X0_copyFrom k k1 σ = some o) : Mi l yX0_copyFrom cX0_copyFrom 3 none (1) E L [.ref (E.2.1 (k)), .ref (E.2.1 (k1))] σ o :=
  Mi.of RX0 rfl (by decide) (Nat.le_of_ble_eq_true rfl) (fun q hq C => by subst hq; exact k_X0_copyFrom_b0 C k k1 hB hB1  σ hf)
