/-! printed by wip/whole/gen/gen.py: methods as pure functions, and that the machine does them -/
def f_X11_no (k : Nat) (x1 : Int32) (σ : Sg) : Rs := p_rd σ (k + 1) 7 (-x1) (fun v1 => p_wr σ (k + 1) 7 (-x1) (v1 + 1) (fun s2 => some (x1, s2)))
set_option maxRecDepth 100000 in
set_option maxHeartbeats 4000000 in
theorem k_X11_no_b0 {q : Mc} {E : En} {L : List Nat} {o : Int32 × Sg} (C : Cx q E L cX11_no 2 RX11 (some .int) (1)) (k : Nat) (hB : Bk L sh_AuntsPuzzleModel k) (x1 : Int32) (σ : Sg) (hf : f_X11_no k x1 σ = some o) : Vx q E L 2 (some .int) o 0 [(0, .ref (E.2.1 (k))), (1, .int x1)] [] σ := by
  unfold f_X11_no at hf
  refine v_aload_n 0 C dX11_no_0 rfl rfl ?_
  refine v_getR 1 C lk_X11_7 (hB 0 _ rfl) (by decide) rfl dX11_no_1 ?_
  refine v_iload_n 4 C dX11_no_4 rfl rfl ?_
  refine v_ineg 5 C dX11_no_5 ?_
  refine v_dup2 6 C dX11_no_6 rfl rfl ?_
  refine v_iald 7 C (hB 1 _ rfl) dX11_no_7 hf (fun v1 hf => ?_)
  refine v_iconst (v := 1) 8 C dX11_no_8 (by decide) ?_
  refine v_iadd 9 C dX11_no_9 ?_
  refine v_iast 10 C (hB 1 _ rfl) dX11_no_10 hf (fun s2 hf => ?_)
  refine v_iload_n 11 C dX11_no_11 rfl rfl ?_
  exact v_iret 12 C rfl dX11_no_12 hf
theorem m_X11_no {l : Launch} {E : En} {L : List Nat} (k : Nat) (hB : Bk L sh_AuntsPuzzleModel k) (x1 : Int32) (σ : Sg) (o : Int32 × Sg) (hf : f_X11_no k x1 σ = some o) : Mi l yX11_no cX11_no 2 (some .int) (1) E L [.ref (E.2.1 (k)), .int x1] σ o :=
  Mi.of RX11 rfl (by decide) (Nat.le_of_ble_eq_true rfl) (fun q hq C => by subst hq; exact k_X11_no_b0 C k hB x1 σ hf)
def f_X11_lower (k : Nat) (x1 : Int32) (σ : Sg) : Rs := p_rd σ (k + 1) 7 (-x1) (fun v1 => p_wr σ (k + 1) 7 (-x1) (v1 + 1) (fun s2 => some (1000000000 - x1, s2)))
set_option maxRecDepth 100000 in
set_option maxHeartbeats 4000000 in
theorem k_X11_lower_b0 {q : Mc} {E : En} {L : List Nat} {o : Int32 × Sg} (C : Cx q E L cX11_lower 2 RX11 (some .int) (1)) (k : Nat) (hB : Bk L sh_AuntsPuzzleModel k) (x1 : Int32) (σ : Sg) (hf : f_X11_lower k x1 σ = some o) : Vx q E L 2 (some .int) o 0 [(0, .ref (E.2.1 (k))), (1, .int x1)] [] σ := by
  unfold f_X11_lower at hf
  refine v_aload_n 0 C dX11_lower_0 rfl rfl ?_
  refine v_getR 1 C lk_X11_7 (hB 0 _ rfl) (by decide) rfl dX11_lower_1 ?_
  refine v_iload_n 4 C dX11_lower_4 rfl rfl ?_
  refine v_ineg 5 C dX11_lower_5 ?_
  refine v_dup2 6 C dX11_lower_6 rfl rfl ?_
  refine v_iald 7 C (hB 1 _ rfl) dX11_lower_7 hf (fun v1 hf => ?_)
  refine v_iconst (v := 1) 8 C dX11_lower_8 (by decide) ?_
  refine v_iadd 9 C dX11_lower_9 ?_
  refine v_iast 10 C (hB 1 _ rfl) dX11_lower_10 hf (fun s2 hf => ?_)
  refine v_ldc 11 C co_X11_83 dX11_lower_11 ?_
  refine v_iload_n 13 C dX11_lower_13 rfl rfl ?_
  refine v_isub 14 C dX11_lower_14 ?_
  exact v_iret 15 C rfl dX11_lower_15 hf
theorem m_X11_lower {l : Launch} {E : En} {L : List Nat} (k : Nat) (hB : Bk L sh_AuntsPuzzleModel k) (x1 : Int32) (σ : Sg) (o : Int32 × Sg) (hf : f_X11_lower k x1 σ = some o) : Mi l yX11_lower cX11_lower 2 (some .int) (1) E L [.ref (E.2.1 (k)), .int x1] σ o :=
  Mi.of RX11 rfl (by decide) (Nat.le_of_ble_eq_true rfl) (fun q hq C => by subst hq; exact k_X11_lower_b0 C k hB x1 σ hf)
def f_X11_isIn (x0 : Int32) (x1 : Int32) (x2 : Int32) (σ : Sg) : Rs := if x0 < x1 then (some (0, σ)) else (if x2 < x0 then (some (0, σ)) else (some (1, σ)))
set_option maxRecDepth 100000 in
set_option maxHeartbeats 4000000 in
theorem k_X11_isIn_b0 {q : Mc} {E : En} {L : List Nat} {o : Int32 × Sg} (C : Cx q E L cX11_isIn 3 RX11 (some .boolean) (1)) (x0 : Int32) (x1 : Int32) (x2 : Int32) (σ : Sg) (hf : f_X11_isIn x0 x1 x2 σ = some o) : Vx q E L 3 (some .boolean) o 0 [(0, .int x0), (1, .int x1), (2, .int x2)] [] σ := by
  unfold f_X11_isIn at hf
  refine v_iload_n 0 C dX11_isIn_0 rfl rfl ?_
  refine v_iload_n 1 C dX11_isIn_1 rfl rfl ?_
  refine v_icmp_lt (tgt := 14) 2 C dX11_isIn_2 (by decide) hf (fun hf => ?_) (fun hf => ?_)
  · refine v_iconst (v := 0) 14 C dX11_isIn_14 (by decide) ?_
    exact v_zretN 15 C rfl dX11_isIn_15 (by decide) hf
  · refine v_iload_n 5 C dX11_isIn_5 rfl rfl ?_
    refine v_iload_n 6 C dX11_isIn_6 rfl rfl ?_
    refine v_icmp_gt (tgt := 14) 7 C dX11_isIn_7 (by decide) hf (fun hf => ?_) (fun hf => ?_)
    · refine v_iconst (v := 0) 14 C dX11_isIn_14 (by decide) ?_
      exact v_zretN 15 C rfl dX11_isIn_15 (by decide) hf
    · refine v_iconst (v := 1) 10 C dX11_isIn_10 (by decide) ?_
      refine v_goto (tgt := 15) 11 C dX11_isIn_11 (by decide) ?_
      exact v_zretN 15 C rfl dX11_isIn_15 (by decide) hf
theorem m_X11_isIn {l : Launch} {E : En} {L : List Nat} (x0 : Int32) (x1 : Int32) (x2 : Int32) (σ : Sg) (o : Int32 × Sg) (hf : f_X11_isIn x0 x1 x2 σ = some o) : Mi l yX11_isIn cX11_isIn 3 (some .boolean) (1) E L [.int x0, .int x1, .int x2] σ o :=
  Mi.of RX11 rfl (by decide) (Nat.le_of_ble_eq_true rfl) (fun q hq C => by subst hq; exact k_X11_isIn_b0 C   x0 x1 x2 σ hf)
def f_X11_bound (x0 : Int32) (x1 : Int32) (x2 : Int32) (σ : Sg) : Rs := if x1 ≤ x0 then (if x0 ≤ x2 then (some (0, σ)) else (some ((-6), σ))) else (some ((-4), σ))
set_option maxRecDepth 100000 in
set_option maxHeartbeats 4000000 in
theorem k_X11_bound_b0 {q : Mc} {E : En} {L : List Nat} {o : Int32 × Sg} (C : Cx q E L cX11_bound 3 RX11 (some .int) (1)) (x0 : Int32) (x1 : Int32) (x2 : Int32) (σ : Sg) (hf : f_X11_bound x0 x1 x2 σ = some o) : Vx q E L 3 (some .int) o 0 [(0, .int x0), (1, .int x1), (2, .int x2)] [] σ := by
  unfold f_X11_bound at hf
  refine v_iload_n 0 C dX11_bound_0 rfl rfl ?_
  refine v_iload_n 1 C dX11_bound_1 rfl rfl ?_
  refine v_icmp_ge (tgt := 10) 2 C dX11_bound_2 (by decide) hf (fun hf => ?_) (fun hf => ?_)
  · refine v_iload_n 10 C dX11_bound_10 rfl rfl ?_
    refine v_iload_n 11 C dX11_bound_11 rfl rfl ?_
    refine v_icmp_le (tgt := 20) 12 C dX11_bound_12 (by decide) hf (fun hf => ?_) (fun hf => ?_)
    · refine v_iconst (v := 0) 20 C dX11_bound_20 (by decide) ?_
      exact v_iret 21 C rfl dX11_bound_21 hf
    · refine v_bipush (v := (-6)) 15 C dX11_bound_15 (by decide) ?_
      refine v_goto (tgt := 21) 17 C dX11_bound_17 (by decide) ?_
      exact v_iret 21 C rfl dX11_bound_21 hf
  · refine v_bipush (v := (-4)) 5 C dX11_bound_5 (by decide) ?_
    refine v_goto (tgt := 21) 7 C dX11_bound_7 (by decide) ?_
    exact v_iret 21 C rfl dX11_bound_21 hf
theorem m_X11_bound {l : Launch} {E : En} {L : List Nat} (x0 : Int32) (x1 : Int32) (x2 : Int32) (σ : Sg) (o : Int32 × Sg) (hf : f_X11_bound x0 x1 x2 σ = some o) : Mi l yX11_bound cX11_bound 3 (some .int) (1) E L [.int x0, .int x1, .int x2] σ o :=
  Mi.of RX11 rfl (by decide) (Nat.le_of_ble_eq_true rfl) (fun q hq C => by subst hq; exact k_X11_bound_b0 C   x0 x1 x2 σ hf)
def f_X11_cells (k : Nat) (σ : Sg) : Rs := some ((σ (k) 11) * (σ (k) 12), σ)
set_option maxRecDepth 100000 in
set_option maxHeartbeats 4000000 in
theorem k_X11_cells_b0 {q : Mc} {E : En} {L : List Nat} {o : Int32 × Sg} (C : Cx q E L cX11_cells 1 RX11 (some .int) (1)) (k : Nat) (hB : Bk L sh_AuntsPuzzleModel k) (σ : Sg) (hf : f_X11_cells k σ = some o) : Vx q E L 1 (some .int) o 0 [(0, .ref (E.2.1 (k)))] [] σ := by
  unfold f_X11_cells at hf
  refine v_aload_n 0 C dX11_cells_0 rfl rfl ?_
  refine v_getI (dum := 0) 1 C lk_X11_84 (hB 0 _ rfl) (by decide) rfl dX11_cells_1 ?_
  refine v_aload_n 4 C dX11_cells_4 rfl rfl ?_
  refine v_getI (dum := 0) 5 C lk_X11_88 (hB 0 _ rfl) (by decide) rfl dX11_cells_5 ?_
  refine v_imul 8 C dX11_cells_8 ?_
  exact v_iret 9 C rfl dX11_cells_9 hf
theorem m_X11_cells {l : Launch} {E : En} {L : List Nat} (k : Nat) (hB : Bk L sh_AuntsPuzzleModel k) (σ : Sg) (o : Int32 × Sg) (hf : f_X11_cells k σ = some o) : Mi l yX11_cells cX11_cells 1 (some .int) (1) E L [.ref (E.2.1 (k))] σ o :=
  Mi.of RX11 rfl (by decide) (Nat.le_of_ble_eq_true rfl) (fun q hq C => by subst hq; exact k_X11_cells_b0 C k hB  σ hf)
def f_X11_anew_b12 (k : Nat)  : Nat → Int32 → Sg → Rs
  | 0, _, _ => none
  | n + 1, x3, σ => if 16 ≤ x3 then (some (0, σ)) else (p_wr σ (k + 2) 16 x3 1 (fun s1 => p_wr s1 (k + 3) 16 x3 1 (fun s2 => p_wr s2 (k + 4) 16 x3 0 (fun s3 => p_wr s3 (k + 5) 16 x3 (-1) (fun s4 => p_wr s4 (k + 8) 16 x3 0 (fun s5 => f_X11_anew_b12 k n (x3 + 1) s5))))))
set_option maxRecDepth 100000 in
set_option maxHeartbeats 4000000 in
theorem k_X11_anew_b12 {q : Mc} {E : En} {L : List Nat} {o : Int32 × Sg} (C : Cx q E L cX11_anew 4 RX11 none (1)) (k : Nat) (hB : Bk L sh_AuntsPuzzleModel k) (n : Nat) : ∀ (x3 : Int32) (σ : Sg), f_X11_anew_b12 k n x3 σ = some o → Vx q E L 4 none o 12 [(0, .ref (E.2.1 (k))), (3, .int x3)] [] σ := by
  induction n with
  | zero => intro x3 σ hf; cases (show (none : Rs) = some o from hf)
  | succ n ih =>
    intro x3 σ hf
    rw [f_X11_anew_b12] at hf
    refine v_iload_n 12 C dX11_anew_12 rfl rfl ?_
    refine v_bipush (v := 16) 13 C dX11_anew_13 (by decide) ?_
    refine v_icmp_ge (tgt := 59) 15 C dX11_anew_15 (by decide) hf (fun hf => ?_) (fun hf => ?_)
    · exact v_ret (r := 0) 59 C rfl dX11_anew_59 hf
    · refine v_aload_n 18 C dX11_anew_18 rfl rfl ?_
      refine v_getR 19 C lk_X11_13 (hB 0 _ rfl) (by decide) rfl dX11_anew_19 ?_
      refine v_iload_n 22 C dX11_anew_22 rfl rfl ?_
      refine v_iconst (v := 1) 23 C dX11_anew_23 (by decide) ?_
      refine v_iast 24 C (hB 2 _ rfl) dX11_anew_24 hf (fun s1 hf => ?_)
      refine v_aload_n 25 C dX11_anew_25 rfl rfl ?_
      refine v_getR 26 C lk_X11_16 (hB 0 _ rfl) (by decide) rfl dX11_anew_26 ?_
      refine v_iload_n 29 C dX11_anew_29 rfl rfl ?_
      refine v_iconst (v := 1) 30 C dX11_anew_30 (by decide) ?_
      refine v_iast 31 C (hB 3 _ rfl) dX11_anew_31 hf (fun s2 hf => ?_)
      refine v_aload_n 32 C dX11_anew_32 rfl rfl ?_
      refine v_getR 33 C lk_X11_19 (hB 0 _ rfl) (by decide) rfl dX11_anew_33 ?_
      refine v_iload_n 36 C dX11_anew_36 rfl rfl ?_
      refine v_iconst (v := 0) 37 C dX11_anew_37 (by decide) ?_
      refine v_iast 38 C (hB 4 _ rfl) dX11_anew_38 hf (fun s3 hf => ?_)
      refine v_aload_n 39 C dX11_anew_39 rfl rfl ?_
      refine v_getR 40 C lk_X11_22 (hB 0 _ rfl) (by decide) rfl dX11_anew_40 ?_
      refine v_iload_n 43 C dX11_anew_43 rfl rfl ?_
      refine v_iconst (v := (-1)) 44 C dX11_anew_44 (by decide) ?_
      refine v_iast 45 C (hB 5 _ rfl) dX11_anew_45 hf (fun s4 hf => ?_)
      refine v_aload_n 46 C dX11_anew_46 rfl rfl ?_
      refine v_getR 47 C lk_X11_31 (hB 0 _ rfl) (by decide) rfl dX11_anew_47 ?_
      refine v_iload_n 50 C dX11_anew_50 rfl rfl ?_
      refine v_iconst (v := 0) 51 C dX11_anew_51 (by decide) ?_
      refine v_iast 52 C (hB 8 _ rfl) dX11_anew_52 hf (fun s5 hf => ?_)
      refine v_iinc (v := x3 + 1) (lv' := [(0, .ref (E.2.1 (k))), (3, .int (x3 + 1))]) 53 C dX11_anew_53 rfl (by rfl) (by decide) rfl rfl ?_
      refine v_goto (tgt := 12) 56 C dX11_anew_56 (by decide) ?_
      exact Vx.lv [0, 1] rfl (ih (x3 + 1) s5 hf)
def f_X11_anew (k : Nat) (x1 : Int32) (x2 : Int32) (σ : Sg) : Rs := p_put σ (k) 11 x1 (fun s1 => p_put s1 (k) 12 x2 (fun s2 => f_X11_anew_b12 k fu 0 s2))
set_option maxRecDepth 100000 in
set_option maxHeartbeats 4000000 in
theorem k_X11_anew_b0 {q : Mc} {E : En} {L : List Nat} {o : Int32 × Sg} (C : Cx q E L cX11_anew 4 RX11 none (1)) (k : Nat) (hB : Bk L sh_AuntsPuzzleModel k) (x1 : Int32) (x2 : Int32) (σ : Sg) (hf : f_X11_anew k x1 x2 σ = some o) : Vx q E L 4 none o 0 [(0, .ref (E.2.1 (k))), (1, .int x1), (2, .int x2)] [] σ := by
  unfold f_X11_anew at hf
  refine v_aload_n 0 C dX11_anew_0 rfl rfl ?_
  refine v_iload_n 1 C dX11_anew_1 rfl rfl ?_
  refine v_putI 2 C lp_X11_84 (hB 0 _ rfl) (by decide) rfl dX11_anew_2 hf (fun s1 hf => ?_)
  refine v_aload_n 5 C dX11_anew_5 rfl rfl ?_
  refine v_iload_n 6 C dX11_anew_6 rfl rfl ?_
  refine v_putI 7 C lp_X11_88 (hB 0 _ rfl) (by decide) rfl dX11_anew_7 hf (fun s2 hf => ?_)
  refine v_iconst (v := 0) 10 C dX11_anew_10 (by decide) ?_
  refine v_istore_n (lv' := [(0, .ref (E.2.1 (k))), (1, .int x1), (2, .int x2), (3, .int 0)]) 11 C dX11_anew_11 rfl (by decide) rfl rfl ?_
  exact Vx.lv [0, 3] rfl (k_X11_anew_b12 C k hB fu 0 s2 hf)
theorem m_X11_anew {l : Launch} {E : En} {L : List Nat} (k : Nat) (hB : Bk L sh_AuntsPuzzleModel k) (x1 : Int32) (x2 : Int32) (σ : Sg) (o : Int32 × Sg) (hf : f_X11_anew k x1 x2 σ = some o) : Mi l yX11_anew cX11_anew 4 none (1) E L [.ref (E.2.1 (k)), .int x1, .int x2] σ o :=
  Mi.of RX11 rfl (by decide) (Nat.le_of_ble_eq_true rfl) (fun q hq C => by subst hq; exact k_X11_anew_b0 C k hB x1 x2 σ hf)
def f_X11_isCell (k : Nat) (x1 : Int32) (σ : Sg) : Rs := if x1 < 0 then (some (0, σ)) else (p_call (f_X11_cells k σ) (fun v1 s2 => if v1 ≤ x1 then (some (0, s2)) else (some (1, s2))))
set_option maxRecDepth 100000 in
set_option maxHeartbeats 4000000 in
theorem k_X11_isCell_b0 {q : Mc} {E : En} {L : List Nat} {o : Int32 × Sg} (C : Cx q E L cX11_isCell 2 RX11 (some .boolean) (2)) (k : Nat) (hB : Bk L sh_AuntsPuzzleModel k) (x1 : Int32) (σ : Sg) (hf : f_X11_isCell k x1 σ = some o) : Vx q E L 2 (some .boolean) o 0 [(0, .ref (E.2.1 (k))), (1, .int x1)] [] σ := by
  unfold f_X11_isCell at hf
  refine v_iload_n 0 C dX11_isCell_0 rfl rfl ?_
  refine v_if_lt (tgt := 16) 1 C dX11_isCell_1 (by decide) hf (fun hf => ?_) (fun hf => ?_)
  · refine v_iconst (v := 0) 16 C dX11_isCell_16 (by decide) ?_
    exact v_zretN 17 C rfl dX11_isCell_17 (by decide) hf
  · refine v_iload_n 4 C dX11_isCell_4 rfl rfl ?_
    refine v_aload_n 5 C dX11_isCell_5 rfl rfl ?_
    refine v_callV (st := [.int x1]) 6 C [] lm_X11_91 ly_X11_cells (hB 0 _ rfl) (by decide) dX11_isCell_6 rfl (by decide) rfl (Nat.le_of_ble_eq_true rfl) (fun o1 h1 => m_X11_cells k hB  σ o1 h1) hf (fun v1 s2 hf => ?_)
    refine v_icmp_ge (tgt := 16) 9 C dX11_isCell_9 (by decide) hf (fun hf => ?_) (fun hf => ?_)
    · refine v_iconst (v := 0) 16 C dX11_isCell_16 (by decide) ?_
      exact v_zretN 17 C rfl dX11_isCell_17 (by decide) hf
    · refine v_iconst (v := 1) 12 C dX11_isCell_12 (by decide) ?_
      refine v_goto (tgt := 17) 13 C dX11_isCell_13 (by decide) ?_
      exact v_zretN 17 C rfl dX11_isCell_17 (by decide) hf
theorem m_X11_isCell {l : Launch} {E : En} {L : List Nat} (k : Nat) (hB : Bk L sh_AuntsPuzzleModel k) (x1 : Int32) (σ : Sg) (o : Int32 × Sg) (hf : f_X11_isCell k x1 σ = some o) : Mi l yX11_isCell cX11_isCell 2 (some .boolean) (2) E L [.ref (E.2.1 (k)), .int x1] σ o :=
  Mi.of RX11 rfl (by decide) (Nat.le_of_ble_eq_true rfl) (fun q hq C => by subst hq; exact k_X11_isCell_b0 C k hB x1 σ hf)
def f_X11_isPerson (k : Nat) (x1 : Int32) (σ : Sg) : Rs := if x1 < 0 then (some (0, σ)) else (if (σ (k) 13) ≤ x1 then (some (0, σ)) else (some (1, σ)))
set_option maxRecDepth 100000 in
set_option maxHeartbeats 4000000 in
theorem k_X11_isPerson_b0 {q : Mc} {E : En} {L : List Nat} {o : Int32 × Sg} (C : Cx q E L cX11_isPerson 2 RX11 (some .boolean) (1)) (k : Nat) (hB : Bk L sh_AuntsPuzzleModel k) (x1 : Int32) (σ : Sg) (hf : f_X11_isPerson k x1 σ = some o) : Vx q E L 2 (some .boolean) o 0 [(0, .ref (E.2.1 (k))), (1, .int x1)] [] σ := by
  unfold f_X11_isPerson at hf
  refine v_iload_n 0 C dX11_isPerson_0 rfl rfl ?_
  refine v_if_lt (tgt := 16) 1 C dX11_isPerson_1 (by decide) hf (fun hf => ?_) (fun hf => ?_)
  · refine v_iconst (v := 0) 16 C dX11_isPerson_16 (by decide) ?_
    exact v_zretN 17 C rfl dX11_isPerson_17 (by decide) hf
  · refine v_iload_n 4 C dX11_isPerson_4 rfl rfl ?_
    refine v_aload_n 5 C dX11_isPerson_5 rfl rfl ?_
    refine v_getI (dum := 0) 6 C lk_X11_95 (hB 0 _ rfl) (by decide) rfl dX11_isPerson_6 ?_
    refine v_icmp_ge (tgt := 16) 9 C dX11_isPerson_9 (by decide) hf (fun hf => ?_) (fun hf => ?_)
    · refine v_iconst (v := 0) 16 C dX11_isPerson_16 (by decide) ?_
      exact v_zretN 17 C rfl dX11_isPerson_17 (by decide) hf
    · refine v_iconst (v := 1) 12 C dX11_isPerson_12 (by decide) ?_
      refine v_goto (tgt := 17) 13 C dX11_isPerson_13 (by decide) ?_
      exact v_zretN 17 C rfl dX11_isPerson_17 (by decide) hf
theorem m_X11_isPerson {l : Launch} {E : En} {L : List Nat} (k : Nat) (hB : Bk L sh_AuntsPuzzleModel k) (x1 : Int32) (σ : Sg) (o : Int32 × Sg) (hf : f_X11_isPerson k x1 σ = some o) : Mi l yX11_isPerson cX11_isPerson 2 (some .boolean) (1) E L [.ref (E.2.1 (k)), .int x1] σ o :=
  Mi.of RX11 rfl (by decide) (Nat.le_of_ble_eq_true rfl) (fun q hq C => by subst hq; exact k_X11_isPerson_b0 C k hB x1 σ hf)
def f_X11_beside (k : Nat) (x1 : Int32) (x2 : Int32) (σ : Sg) : Rs := if x2 = 0 then (if x1 < (σ (k) 12) then (some ((-1), σ)) else (some (x1 - (σ (k) 12), σ))) else (if x2 = 1 then (p_nz (σ (k) 12) (if (σ (k) 12) ≤ ((x1 - x1 / (σ (k) 12) * (σ (k) 12)) + 1) then (some ((-1), σ)) else (some (x1 + 1, σ)))) else (if x2 = 2 then (p_call (f_X11_cells k σ) (fun v1 s2 => if v1 ≤ (x1 + (σ (k) 12)) then (some ((-1), s2)) else (some (x1 + (s2 (k) 12), s2)))) else (p_nz (σ (k) 12) (if (x1 - x1 / (σ (k) 12) * (σ (k) 12)) ≤ 0 then (some ((-1), σ)) else (some (x1 - 1, σ))))))
set_option maxRecDepth 100000 in
set_option maxHeartbeats 4000000 in
theorem k_X11_beside_b0 {q : Mc} {E : En} {L : List Nat} {o : Int32 × Sg} (C : Cx q E L cX11_beside 3 RX11 (some .int) (2)) (k : Nat) (hB : Bk L sh_AuntsPuzzleModel k) (x1 : Int32) (x2 : Int32) (σ : Sg) (hf : f_X11_beside k x1 x2 σ = some o) : Vx q E L 3 (some .int) o 0 [(0, .ref (E.2.1 (k))), (1, .int x1), (2, .int x2)] [] σ := by
  unfold f_X11_beside at hf
  refine v_iload_n 0 C dX11_beside_0 rfl rfl ?_
  refine v_case (v := 0) hf (fun hx hf => ?_) (fun hn0 hf => ?_)
  · refine v_tabIn (tgt := 28) 1 C hx dX11_beside_1 (by decide) rfl (by decide) ?_
    refine v_iload_n 28 C dX11_beside_28 rfl rfl ?_
    refine v_aload_n 29 C dX11_beside_29 rfl rfl ?_
    refine v_getI (dum := 0) 30 C lk_X11_88 (hB 0 _ rfl) (by decide) rfl dX11_beside_30 ?_
    refine v_icmp_lt (tgt := 45) 33 C dX11_beside_33 (by decide) hf (fun hf => ?_) (fun hf => ?_)
    · refine v_iconst (v := (-1)) 45 C dX11_beside_45 (by decide) ?_
      exact v_iret 46 C rfl dX11_beside_46 hf
    · refine v_iload_n 36 C dX11_beside_36 rfl rfl ?_
      refine v_aload_n 37 C dX11_beside_37 rfl rfl ?_
      refine v_getI (dum := 0) 38 C lk_X11_88 (hB 0 _ rfl) (by decide) rfl dX11_beside_38 ?_
      refine v_isub 41 C dX11_beside_41 ?_
      refine v_goto (tgt := 46) 42 C dX11_beside_42 (by decide) ?_
      exact v_iret 46 C rfl dX11_beside_46 hf
  refine v_case (v := 1) hf (fun hx hf => ?_) (fun hn1 hf => ?_)
  · refine v_tabIn (tgt := 47) 1 C hx dX11_beside_1 (by decide) rfl (by decide) ?_
    refine v_iload_n 47 C dX11_beside_47 rfl rfl ?_
    refine v_aload_n 48 C dX11_beside_48 rfl rfl ?_
    refine v_getI (dum := 0) 49 C lk_X11_88 (hB 0 _ rfl) (by decide) rfl dX11_beside_49 ?_
    refine v_irem 52 C dX11_beside_52 hf (fun hf => ?_)
    refine v_iconst (v := 1) 53 C dX11_beside_53 (by decide) ?_
    refine v_iadd 54 C dX11_beside_54 ?_
    refine v_aload_n 55 C dX11_beside_55 rfl rfl ?_
    refine v_getI (dum := 0) 56 C lk_X11_88 (hB 0 _ rfl) (by decide) rfl dX11_beside_56 ?_
    refine v_icmp_ge (tgt := 68) 59 C dX11_beside_59 (by decide) hf (fun hf => ?_) (fun hf => ?_)
    · refine v_iconst (v := (-1)) 68 C dX11_beside_68 (by decide) ?_
      exact v_iret 69 C rfl dX11_beside_69 hf
    · refine v_iload_n 62 C dX11_beside_62 rfl rfl ?_
      refine v_iconst (v := 1) 63 C dX11_beside_63 (by decide) ?_
      refine v_iadd 64 C dX11_beside_64 ?_
      refine v_goto (tgt := 69) 65 C dX11_beside_65 (by decide) ?_
      exact v_iret 69 C rfl dX11_beside_69 hf
  refine v_case (v := 2) hf (fun hx hf => ?_) (fun hn2 hf => ?_)
  · refine v_tabIn (tgt := 70) 1 C hx dX11_beside_1 (by decide) rfl (by decide) ?_
    refine v_iload_n 70 C dX11_beside_70 rfl rfl ?_
    refine v_aload_n 71 C dX11_beside_71 rfl rfl ?_
    refine v_getI (dum := 0) 72 C lk_X11_88 (hB 0 _ rfl) (by decide) rfl dX11_beside_72 ?_
    refine v_iadd 75 C dX11_beside_75 ?_
    refine v_aload_n 76 C dX11_beside_76 rfl rfl ?_
    refine v_callV (st := [.int (x1 + (σ (k) 12))]) 77 C [] lm_X11_91 ly_X11_cells (hB 0 _ rfl) (by decide) dX11_beside_77 rfl (by decide) rfl (Nat.le_of_ble_eq_true rfl) (fun o1 h1 => m_X11_cells k hB  σ o1 h1) hf (fun v1 s2 hf => ?_)
    refine v_icmp_ge (tgt := 92) 80 C dX11_beside_80 (by decide) hf (fun hf => ?_) (fun hf => ?_)
    · refine v_iconst (v := (-1)) 92 C dX11_beside_92 (by decide) ?_
      exact v_iret 93 C rfl dX11_beside_93 hf
    · refine v_iload_n 83 C dX11_beside_83 rfl rfl ?_
      refine v_aload_n 84 C dX11_beside_84 rfl rfl ?_
      refine v_getI (dum := 0) 85 C lk_X11_88 (hB 0 _ rfl) (by decide) rfl dX11_beside_85 ?_
      refine v_iadd 88 C dX11_beside_88 ?_
      refine v_goto (tgt := 93) 89 C dX11_beside_89 (by decide) ?_
      exact v_iret 93 C rfl dX11_beside_93 hf
  refine v_tabOut (tgt := 94) 1 C dX11_beside_1 (by have g0 := lv_neT hn0 (show (0 : Int32).toInt = 0 from rfl); have g1 := lv_neT hn1 (show (1 : Int32).toInt = 1 from rfl); have g2 := lv_neT hn2 (show (2 : Int32).toInt = 2 from rfl); omega) (by decide) ?_
  refine v_iload_n 94 C dX11_beside_94 rfl rfl ?_
  refine v_aload_n 95 C dX11_beside_95 rfl rfl ?_
  refine v_getI (dum := 0) 96 C lk_X11_88 (hB 0 _ rfl) (by decide) rfl dX11_beside_96 ?_
  refine v_irem 99 C dX11_beside_99 hf (fun hf => ?_)
  refine v_if_le (tgt := 109) 100 C dX11_beside_100 (by decide) hf (fun hf => ?_) (fun hf => ?_)
  · refine v_iconst (v := (-1)) 109 C dX11_beside_109 (by decide) ?_
    exact v_iret 110 C rfl dX11_beside_110 hf
  · refine v_iload_n 103 C dX11_beside_103 rfl rfl ?_
    refine v_iconst (v := 1) 104 C dX11_beside_104 (by decide) ?_
    refine v_isub 105 C dX11_beside_105 ?_
    refine v_goto (tgt := 110) 106 C dX11_beside_106 (by decide) ?_
    exact v_iret 110 C rfl dX11_beside_110 hf
theorem m_X11_beside {l : Launch} {E : En} {L : List Nat} (k : Nat) (hB : Bk L sh_AuntsPuzzleModel k) (x1 : Int32) (x2 : Int32) (σ : Sg) (o : Int32 × Sg) (hf : f_X11_beside k x1 x2 σ = some o) : Mi l yX11_beside cX11_beside 3 (some .int) (2) E L [.ref (E.2.1 (k)), .int x1, .int x2] σ o :=
  Mi.of RX11 rfl (by decide) (Nat.le_of_ble_eq_true rfl) (fun q hq C => by subst hq; exact k_X11_beside_b0 C k hB x1 x2 σ hf)
def f_X11_sideOf (k : Nat) (x1 : Int32) (x2 : Int32) (σ : Sg) : Rs := p_call (f_X11_beside k x1 x2 σ) (fun v1 s2 => if 0 ≤ v1 then (if x2 = 1 then (p_rd s2 (k + 2) 16 x1 (fun v6 => some (v6, s2))) else (if x2 = 2 then (p_rd s2 (k + 3) 16 x1 (fun v5 => some (v5, s2))) else (if x2 = 0 then (p_rd s2 (k + 3) 16 v1 (fun v4 => some (-v4, s2))) else (p_rd s2 (k + 2) 16 v1 (fun v3 => some (-v3, s2)))))) else (some (0, s2)))
set_option maxRecDepth 100000 in
set_option maxHeartbeats 4000000 in
theorem k_X11_sideOf_b0 {q : Mc} {E : En} {L : List Nat} {o : Int32 × Sg} (C : Cx q E L cX11_sideOf 4 RX11 (some .int) (3)) (k : Nat) (hB : Bk L sh_AuntsPuzzleModel k) (x1 : Int32) (x2 : Int32) (σ : Sg) (hf : f_X11_sideOf k x1 x2 σ = some o) : Vx q E L 4 (some .int) o 0 [(0, .ref (E.2.1 (k))), (1, .int x1), (2, .int x2)] [] σ := by
  unfold f_X11_sideOf at hf
  refine v_aload_n 0 C dX11_sideOf_0 rfl rfl ?_
  refine v_iload_n 1 C dX11_sideOf_1 rfl rfl ?_
  refine v_iload_n 2 C dX11_sideOf_2 rfl rfl ?_
  refine v_callV (st := []) 3 C [.int x1, .int x2] lm_X11_98 ly_X11_beside (hB 0 _ rfl) (by decide) dX11_sideOf_3 rfl (by decide) rfl (Nat.le_of_ble_eq_true rfl) (fun o1 h1 => m_X11_beside k hB x1 x2 σ o1 h1) hf (fun v1 s2 hf => ?_)
  refine v_istore_n (lv' := [(0, .ref (E.2.1 (k))), (1, .int x1), (2, .int x2), (3, .int v1)]) 6 C dX11_sideOf_6 rfl (by decide) rfl rfl ?_
  refine v_iload_n 7 C dX11_sideOf_7 rfl rfl ?_
  refine v_if_ge (tgt := 13) 8 C dX11_sideOf_8 (by decide) hf (fun hf => ?_) (fun hf => ?_)
  · refine v_iload_n 13 C dX11_sideOf_13 rfl rfl ?_
    refine v_iconst (v := 1) 14 C dX11_sideOf_14 (by decide) ?_
    refine v_icmp_ne (tgt := 27) 15 C dX11_sideOf_15 (by decide) hf (fun hf => ?_) (fun hf => ?_)
    · refine v_iload_n 27 C dX11_sideOf_27 rfl rfl ?_
      refine v_iconst (v := 2) 28 C dX11_sideOf_28 (by decide) ?_
      refine v_icmp_ne (tgt := 41) 29 C dX11_sideOf_29 (by decide) hf (fun hf => ?_) (fun hf => ?_)
      · refine v_iload_n 41 C dX11_sideOf_41 rfl rfl ?_
        refine v_if_ne (tgt := 55) 42 C dX11_sideOf_42 (by decide) hf (fun hf => ?_) (fun hf => ?_)
        · refine v_aload_n 55 C dX11_sideOf_55 rfl rfl ?_
          refine v_getR 56 C lk_X11_13 (hB 0 _ rfl) (by decide) rfl dX11_sideOf_56 ?_
          refine v_iload_n 59 C dX11_sideOf_59 rfl rfl ?_
          refine v_iald 60 C (hB 2 _ rfl) dX11_sideOf_60 hf (fun v3 hf => ?_)
          refine v_ineg 61 C dX11_sideOf_61 ?_
          exact v_iret 62 C rfl dX11_sideOf_62 hf
        · refine v_aload_n 45 C dX11_sideOf_45 rfl rfl ?_
          refine v_getR 46 C lk_X11_16 (hB 0 _ rfl) (by decide) rfl dX11_sideOf_46 ?_
          refine v_iload_n 49 C dX11_sideOf_49 rfl rfl ?_
          refine v_iald 50 C (hB 3 _ rfl) dX11_sideOf_50 hf (fun v4 hf => ?_)
          refine v_ineg 51 C dX11_sideOf_51 ?_
          refine v_goto (tgt := 62) 52 C dX11_sideOf_52 (by decide) ?_
          exact v_iret 62 C rfl dX11_sideOf_62 hf
      · refine v_aload_n 32 C dX11_sideOf_32 rfl rfl ?_
        refine v_getR 33 C lk_X11_16 (hB 0 _ rfl) (by decide) rfl dX11_sideOf_33 ?_
        refine v_iload_n 36 C dX11_sideOf_36 rfl rfl ?_
        refine v_iald 37 C (hB 3 _ rfl) dX11_sideOf_37 hf (fun v5 hf => ?_)
        refine v_goto (tgt := 62) 38 C dX11_sideOf_38 (by decide) ?_
        exact v_iret 62 C rfl dX11_sideOf_62 hf
    · refine v_aload_n 18 C dX11_sideOf_18 rfl rfl ?_
      refine v_getR 19 C lk_X11_13 (hB 0 _ rfl) (by decide) rfl dX11_sideOf_19 ?_
      refine v_iload_n 22 C dX11_sideOf_22 rfl rfl ?_
      refine v_iald 23 C (hB 2 _ rfl) dX11_sideOf_23 hf (fun v6 hf => ?_)
      refine v_goto (tgt := 62) 24 C dX11_sideOf_24 (by decide) ?_
      exact v_iret 62 C rfl dX11_sideOf_62 hf
  · refine v_iconst (v := 0) 11 C dX11_sideOf_11 (by decide) ?_
    exact v_iret 12 C rfl dX11_sideOf_12 hf
theorem m_X11_sideOf {l : Launch} {E : En} {L : List Nat} (k : Nat) (hB : Bk L sh_AuntsPuzzleModel k) (x1 : Int32) (x2 : Int32) (σ : Sg) (o : Int32 × Sg) (hf : f_X11_sideOf k x1 x2 σ = some o) : Mi l yX11_sideOf cX11_sideOf 4 (some .int) (3) E L [.ref (E.2.1 (k)), .int x1, .int x2] σ o :=
  Mi.of RX11 rfl (by decide) (Nat.le_of_ble_eq_true rfl) (fun q hq C => by subst hq; exact k_X11_sideOf_b0 C k hB x1 x2 σ hf)
def f_X11_turned (k : Nat) (x1 : Int32) (x2 : Int32) (x3 : Int32) (σ : Sg) : Rs := p_call (f_X11_sideOf k x1 (((x3 + 4) - x2) - ((x3 + 4) - x2) / 4 * 4) σ) (fun v1 s2 => some (v1, s2))
set_option maxRecDepth 100000 in
set_option maxHeartbeats 4000000 in
theorem k_X11_turned_b0 {q : Mc} {E : En} {L : List Nat} {o : Int32 × Sg} (C : Cx q E L cX11_turned 4 RX11 (some .int) (4)) (k : Nat) (hB : Bk L sh_AuntsPuzzleModel k) (x1 : Int32) (x2 : Int32) (x3 : Int32) (σ : Sg) (hf : f_X11_turned k x1 x2 x3 σ = some o) : Vx q E L 4 (some .int) o 0 [(0, .ref (E.2.1 (k))), (1, .int x1), (2, .int x2), (3, .int x3)] [] σ := by
  unfold f_X11_turned at hf
  refine v_aload_n 0 C dX11_turned_0 rfl rfl ?_
  refine v_iload_n 1 C dX11_turned_1 rfl rfl ?_
  refine v_iload_n 2 C dX11_turned_2 rfl rfl ?_
  refine v_iconst (v := 4) 3 C dX11_turned_3 (by decide) ?_
  refine v_iadd 4 C dX11_turned_4 ?_
  refine v_iload_n 5 C dX11_turned_5 rfl rfl ?_
  refine v_isub 6 C dX11_turned_6 ?_
  refine v_iconst (v := 4) 7 C dX11_turned_7 (by decide) ?_
  refine v_irem_c 8 C dX11_turned_8 (by decide) ?_
  refine v_callV (st := []) 9 C [.int x1, .int (((x3 + 4) - x2) - ((x3 + 4) - x2) / 4 * 4)] lm_X11_102 ly_X11_sideOf (hB 0 _ rfl) (by decide) dX11_turned_9 rfl (by decide) rfl (Nat.le_of_ble_eq_true rfl) (fun o1 h1 => m_X11_sideOf k hB x1 (((x3 + 4) - x2) - ((x3 + 4) - x2) / 4 * 4) σ o1 h1) hf (fun v1 s2 hf => ?_)
  exact v_iret 12 C rfl dX11_turned_12 hf
theorem m_X11_turned {l : Launch} {E : En} {L : List Nat} (k : Nat) (hB : Bk L sh_AuntsPuzzleModel k) (x1 : Int32) (x2 : Int32) (x3 : Int32) (σ : Sg) (o : Int32 × Sg) (hf : f_X11_turned k x1 x2 x3 σ = some o) : Mi l yX11_turned cX11_turned 4 (some .int) (4) E L [.ref (E.2.1 (k)), .int x1, .int x2, .int x3] σ o :=
  Mi.of RX11 rfl (by decide) (Nat.le_of_ble_eq_true rfl) (fun q hq C => by subst hq; exact k_X11_turned_b0 C k hB x1 x2 x3 σ hf)
def f_X11_isRim_b2 (k : Nat)  : Nat → Int32 → Int32 → Sg → Rs
  | 0, _, _, _ => none
  | n + 1, x1, x2, σ => if 4 ≤ x2 then (some (0, σ)) else (p_call (f_X11_beside k x1 x2 σ) (fun v1 s2 => if 0 ≤ v1 then (f_X11_isRim_b2 k n x1 (x2 + 1) s2) else (some (1, s2))))
set_option maxRecDepth 100000 in
set_option maxHeartbeats 4000000 in
theorem k_X11_isRim_b2 {q : Mc} {E : En} {L : List Nat} {o : Int32 × Sg} (C : Cx q E L cX11_isRim 3 RX11 (some .boolean) (3)) (k : Nat) (hB : Bk L sh_AuntsPuzzleModel k) (n : Nat) : ∀ (x1 : Int32) (x2 : Int32) (σ : Sg), f_X11_isRim_b2 k n x1 x2 σ = some o → Vx q E L 3 (some .boolean) o 2 [(0, .ref (E.2.1 (k))), (1, .int x1), (2, .int x2)] [] σ := by
  induction n with
  | zero => intro x1 x2 σ hf; cases (show (none : Rs) = some o from hf)
  | succ n ih =>
    intro x1 x2 σ hf
    rw [f_X11_isRim_b2] at hf
    refine v_iload_n 2 C dX11_isRim_2 rfl rfl ?_
    refine v_iconst (v := 4) 3 C dX11_isRim_3 (by decide) ?_
    refine v_icmp_ge (tgt := 24) 4 C dX11_isRim_4 (by decide) hf (fun hf => ?_) (fun hf => ?_)
    · refine v_iconst (v := 0) 24 C dX11_isRim_24 (by decide) ?_
      exact v_zretN 25 C rfl dX11_isRim_25 (by decide) hf
    · refine v_aload_n 7 C dX11_isRim_7 rfl rfl ?_
      refine v_iload_n 8 C dX11_isRim_8 rfl rfl ?_
      refine v_iload_n 9 C dX11_isRim_9 rfl rfl ?_
      refine v_callV (st := []) 10 C [.int x1, .int x2] lm_X11_98 ly_X11_beside (hB 0 _ rfl) (by decide) dX11_isRim_10 rfl (by decide) rfl (Nat.le_of_ble_eq_true rfl) (fun o1 h1 => m_X11_beside k hB x1 x2 σ o1 h1) hf (fun v1 s2 hf => ?_)
      refine v_if_ge (tgt := 18) 13 C dX11_isRim_13 (by decide) hf (fun hf => ?_) (fun hf => ?_)
      · refine v_iinc (v := x2 + 1) (lv' := [(0, .ref (E.2.1 (k))), (1, .int x1), (2, .int (x2 + 1))]) 18 C dX11_isRim_18 rfl (by rfl) (by decide) rfl rfl ?_
        refine v_goto (tgt := 2) 21 C dX11_isRim_21 (by decide) ?_
        exact Vx.lv [0, 1, 2] rfl (ih x1 (x2 + 1) s2 hf)
      · refine v_iconst (v := 1) 16 C dX11_isRim_16 (by decide) ?_
        exact v_zretN 17 C rfl dX11_isRim_17 (by decide) hf
def f_X11_isRim (k : Nat) (x1 : Int32) (σ : Sg) : Rs := f_X11_isRim_b2 k fu x1 0 σ
set_option maxRecDepth 100000 in
set_option maxHeartbeats 4000000 in
theorem k_X11_isRim_b0 {q : Mc} {E : En} {L : List Nat} {o : Int32 × Sg} (C : Cx q E L cX11_isRim 3 RX11 (some .boolean) (3)) (k : Nat) (hB : Bk L sh_AuntsPuzzleModel k) (x1 : Int32) (σ : Sg) (hf : f_X11_isRim k x1 σ = some o) : Vx q E L 3 (some .boolean) o 0 [(0, .ref (E.2.1 (k))), (1, .int x1)] [] σ := by
  unfold f_X11_isRim at hf
  refine v_iconst (v := 0) 0 C dX11_isRim_0 (by decide) ?_
  refine v_istore_n (lv' := [(0, .ref (E.2.1 (k))), (1, .int x1), (2, .int 0)]) 1 C dX11_isRim_1 rfl (by decide) rfl rfl ?_
  exact Vx.lv [0, 1, 2] rfl (k_X11_isRim_b2 C k hB fu x1 0 σ hf)
theorem m_X11_isRim {l : Launch} {E : En} {L : List Nat} (k : Nat) (hB : Bk L sh_AuntsPuzzleModel k) (x1 : Int32) (σ : Sg) (o : Int32 × Sg) (hf : f_X11_isRim k x1 σ = some o) : Mi l yX11_isRim cX11_isRim 3 (some .boolean) (3) E L [.ref (E.2.1 (k)), .int x1] σ o :=
  Mi.of RX11 rfl (by decide) (Nat.le_of_ble_eq_true rfl) (fun q hq C => by subst hq; exact k_X11_isRim_b0 C k hB x1 σ hf)
def f_X11_feed_b44 (k : Nat)  : Nat → Int32 → Int64 → Int32 → Sg → Rs
  | 0, _, _, _, _ => none
  | n + 1, x1, x2, x5, σ => if x1 ≤ x5 then (some (σ (k) 21, σ)) else (p_wr σ (k + 12) 64 (σ (k) 21) ((((x2 >>> (((8 * x5) : Int32).toInt64 &&& 63)) &&& 255) : Int64).toInt32) (fun s1 => p_put s1 (k) 21 ((s1 (k) 21) + 1) (fun s2 => f_X11_feed_b44 k n x1 x2 (x5 + 1) s2)))
set_option maxRecDepth 100000 in
set_option maxHeartbeats 4000000 in
theorem k_X11_feed_b44 {q : Mc} {E : En} {L : List Nat} {o : Int32 × Sg} (C : Cx q E L cX11_feed 6 RX11 (some .int) (2)) (k : Nat) (hB : Bk L sh_AuntsPuzzleModel k) (n : Nat) : ∀ (x1 : Int32) (x2 : Int64) (x5 : Int32) (σ : Sg), f_X11_feed_b44 k n x1 x2 x5 σ = some o → Vx q E L 6 (some .int) o 44 [(0, .ref (E.2.1 (k))), (1, .int x1), (2, .long x2), (5, .int x5)] [] σ := by
  induction n with
  | zero => intro x1 x2 x5 σ hf; cases (show (none : Rs) = some o from hf)
  | succ n ih =>
    intro x1 x2 x5 σ hf
    rw [f_X11_feed_b44] at hf
    refine v_iload 44 C dX11_feed_44 rfl ?_
    refine v_iload_n 46 C dX11_feed_46 rfl rfl ?_
    refine v_icmp_ge (tgt := 87) 47 C dX11_feed_47 (by decide) hf (fun hf => ?_) (fun hf => ?_)
    · refine v_aload_n 87 C dX11_feed_87 rfl rfl ?_
      refine v_getI (dum := 0) 88 C lk_X11_109 (hB 0 _ rfl) (by decide) rfl dX11_feed_88 ?_
      exact v_iret 91 C rfl dX11_feed_91 hf
    · refine v_aload_n 50 C dX11_feed_50 rfl rfl ?_
      refine v_getR 51 C lk_X11_43 (hB 0 _ rfl) (by decide) rfl dX11_feed_51 ?_
      refine v_aload_n 54 C dX11_feed_54 rfl rfl ?_
      refine v_getI (dum := 0) 55 C lk_X11_109 (hB 0 _ rfl) (by decide) rfl dX11_feed_55 ?_
      refine v_lload_n 58 C dX11_feed_58 rfl rfl ?_
      refine v_bipush (v := 8) 59 C dX11_feed_59 (by decide) ?_
      refine v_iload 61 C dX11_feed_61 rfl ?_
      refine v_imul 63 C dX11_feed_63 ?_
      refine v_lshr 64 C dX11_feed_64 ?_
      refine v_ldc2 65 C co_X11_116 dX11_feed_65 ?_
      refine v_land 68 C dX11_feed_68 ?_
      refine v_l2i 69 C dX11_feed_69 ?_
      refine v_iast 70 C (hB 12 _ rfl) dX11_feed_70 hf (fun s1 hf => ?_)
      refine v_aload_n 71 C dX11_feed_71 rfl rfl ?_
      refine v_dup 72 C dX11_feed_72 rfl ?_
      refine v_getI (dum := 0) 73 C lk_X11_109 (hB 0 _ rfl) (by decide) rfl dX11_feed_73 ?_
      refine v_iconst (v := 1) 76 C dX11_feed_76 (by decide) ?_
      refine v_iadd 77 C dX11_feed_77 ?_
      refine v_putI 78 C lp_X11_109 (hB 0 _ rfl) (by decide) rfl dX11_feed_78 hf (fun s2 hf => ?_)
      refine v_iinc (v := x5 + 1) (lv' := [(0, .ref (E.2.1 (k))), (1, .int x1), (2, .long x2), (5, .int (x5 + 1))]) 81 C dX11_feed_81 rfl (by rfl) (by decide) rfl rfl ?_
      refine v_goto (tgt := 44) 84 C dX11_feed_84 (by decide) ?_
      exact Vx.lv [0, 1, 2, 3] rfl (ih x1 x2 (x5 + 1) s2 hf)
def f_X11_feed_b29 (k : Nat) (x1 : Int32) (x2 : Int64) (x4 : Int32) (σ : Sg) : Rs := if x4 = 0 then (f_X11_feed_b44 k fu x1 x2 0 σ) else (p_call (f_X11_no k x4 σ) (fun v1 s2 => some (v1, s2)))
set_option maxRecDepth 100000 in
set_option maxHeartbeats 4000000 in
theorem k_X11_feed_b29 {q : Mc} {E : En} {L : List Nat} {o : Int32 × Sg} (C : Cx q E L cX11_feed 6 RX11 (some .int) (2)) (k : Nat) (hB : Bk L sh_AuntsPuzzleModel k) (x1 : Int32) (x2 : Int64) (x4 : Int32) (σ : Sg) (hf : f_X11_feed_b29 k x1 x2 x4 σ = some o) : Vx q E L 6 (some .int) o 29 [(0, .ref (E.2.1 (k))), (1, .int x1), (2, .long x2), (4, .int x4)] [] σ := by
  unfold f_X11_feed_b29 at hf
  refine v_iload 29 C dX11_feed_29 rfl ?_
  refine v_if_eq (tgt := 41) 31 C dX11_feed_31 (by decide) hf (fun hf => ?_) (fun hf => ?_)
  · refine v_iconst (v := 0) 41 C dX11_feed_41 (by decide) ?_
    refine v_istore (lv' := [(0, .ref (E.2.1 (k))), (1, .int x1), (2, .long x2), (4, .int x4), (5, .int 0)]) 42 C dX11_feed_42 (by decide) rfl rfl ?_
    exact Vx.lv [0, 1, 2, 4] rfl (k_X11_feed_b44 C k hB fu x1 x2 0 σ hf)
  · refine v_aload_n 34 C dX11_feed_34 rfl rfl ?_
    refine v_iload 35 C dX11_feed_35 rfl ?_
    refine v_callV (st := []) 37 C [.int x4] lm_X11_112 ly_X11_no (hB 0 _ rfl) (by decide) dX11_feed_37 rfl (by decide) rfl (Nat.le_of_ble_eq_true rfl) (fun o1 h1 => m_X11_no k hB x4 σ o1 h1) hf (fun v1 s2 hf => ?_)
    exact v_iret 40 C rfl dX11_feed_40 hf
def f_X11_feed (k : Nat) (x1 : Int32) (x2 : Int64) (σ : Sg) : Rs := p_call (f_X11_bound x1 1 8 σ) (fun v1 s2 => if v1 = 0 then (if ((s2 (k) 21) + x1) ≤ 64 then (f_X11_feed_b29 k x1 x2 v1 s2) else (f_X11_feed_b29 k x1 x2 (-6) s2)) else (f_X11_feed_b29 k x1 x2 v1 s2))
set_option maxRecDepth 100000 in
set_option maxHeartbeats 4000000 in
theorem k_X11_feed_b0 {q : Mc} {E : En} {L : List Nat} {o : Int32 × Sg} (C : Cx q E L cX11_feed 6 RX11 (some .int) (2)) (k : Nat) (hB : Bk L sh_AuntsPuzzleModel k) (x1 : Int32) (x2 : Int64) (σ : Sg) (hf : f_X11_feed k x1 x2 σ = some o) : Vx q E L 6 (some .int) o 0 [(0, .ref (E.2.1 (k))), (1, .int x1), (2, .long x2)] [] σ := by
  unfold f_X11_feed at hf
  refine v_iload_n 0 C dX11_feed_0 rfl rfl ?_
  refine v_iconst (v := 1) 1 C dX11_feed_1 (by decide) ?_
  refine v_bipush (v := 8) 2 C dX11_feed_2 (by decide) ?_
  refine v_callS (st := []) 4 C [.int x1, .int 1, .int 8] lm_X11_105 lz_X11_bound dX11_feed_4 rfl (by decide) rfl (Nat.le_of_ble_eq_true rfl) (fun o1 h1 => m_X11_bound   x1 1 8 σ o1 h1) hf (fun v1 s2 hf => ?_)
  refine v_istore (lv' := [(0, .ref (E.2.1 (k))), (1, .int x1), (2, .long x2), (4, .int v1)]) 7 C dX11_feed_7 (by decide) rfl rfl ?_
  refine v_iload 9 C dX11_feed_9 rfl ?_
  refine v_if_ne (tgt := 29) 11 C dX11_feed_11 (by decide) hf (fun hf => ?_) (fun hf => ?_)
  · exact Vx.lv [0, 1, 2, 3] rfl (k_X11_feed_b29 C k hB x1 x2 v1 s2 hf)
  · refine v_aload_n 14 C dX11_feed_14 rfl rfl ?_
    refine v_getI (dum := 0) 15 C lk_X11_109 (hB 0 _ rfl) (by decide) rfl dX11_feed_15 ?_
    refine v_iload_n 18 C dX11_feed_18 rfl rfl ?_
    refine v_iadd 19 C dX11_feed_19 ?_
    refine v_bipush (v := 64) 20 C dX11_feed_20 (by decide) ?_
    refine v_icmp_le (tgt := 29) 22 C dX11_feed_22 (by decide) hf (fun hf => ?_) (fun hf => ?_)
    · exact Vx.lv [0, 1, 2, 3] rfl (k_X11_feed_b29 C k hB x1 x2 v1 s2 hf)
    · refine v_bipush (v := (-6)) 25 C dX11_feed_25 (by decide) ?_
      refine v_istore (lv' := [(0, .ref (E.2.1 (k))), (1, .int x1), (2, .long x2), (4, .int (-6))]) 27 C dX11_feed_27 (by decide) rfl rfl ?_
      exact Vx.lv [0, 1, 2, 3] rfl (k_X11_feed_b29 C k hB x1 x2 (-6) s2 hf)
theorem m_X11_feed {l : Launch} {E : En} {L : List Nat} (k : Nat) (hB : Bk L sh_AuntsPuzzleModel k) (x1 : Int32) (x2 : Int64) (σ : Sg) (o : Int32 × Sg) (hf : f_X11_feed k x1 x2 σ = some o) : Mi l yX11_feed cX11_feed 6 (some .int) (2) E L [.ref (E.2.1 (k)), .int x1, .long x2] σ o :=
  Mi.of RX11 rfl (by decide) (Nat.le_of_ble_eq_true rfl) (fun q hq C => by subst hq; exact k_X11_feed_b0 C k hB x1 x2 σ hf)
def f_X11_nextByte (k : Nat) (σ : Sg) : Rs := if (σ (k) 21) ≤ (σ (k) 22) then (some ((-1), σ)) else (p_rd σ (k + 12) 64 (σ (k) 22) (fun v1 => some (v1, σ)))
set_option maxRecDepth 100000 in
set_option maxHeartbeats 4000000 in
theorem k_X11_nextByte_b0 {q : Mc} {E : En} {L : List Nat} {o : Int32 × Sg} (C : Cx q E L cX11_nextByte 1 RX11 (some .int) (1)) (k : Nat) (hB : Bk L sh_AuntsPuzzleModel k) (σ : Sg) (hf : f_X11_nextByte k σ = some o) : Vx q E L 1 (some .int) o 0 [(0, .ref (E.2.1 (k)))] [] σ := by
  unfold f_X11_nextByte at hf
  refine v_aload_n 0 C dX11_nextByte_0 rfl rfl ?_
  refine v_getI (dum := 0) 1 C lk_X11_118 (hB 0 _ rfl) (by decide) rfl dX11_nextByte_1 ?_
  refine v_aload_n 4 C dX11_nextByte_4 rfl rfl ?_
  refine v_getI (dum := 0) 5 C lk_X11_109 (hB 0 _ rfl) (by decide) rfl dX11_nextByte_5 ?_
  refine v_icmp_ge (tgt := 23) 8 C dX11_nextByte_8 (by decide) hf (fun hf => ?_) (fun hf => ?_)
  · refine v_iconst (v := (-1)) 23 C dX11_nextByte_23 (by decide) ?_
    exact v_iret 24 C rfl dX11_nextByte_24 hf
  · refine v_aload_n 11 C dX11_nextByte_11 rfl rfl ?_
    refine v_getR 12 C lk_X11_43 (hB 0 _ rfl) (by decide) rfl dX11_nextByte_12 ?_
    refine v_aload_n 15 C dX11_nextByte_15 rfl rfl ?_
    refine v_getI (dum := 0) 16 C lk_X11_118 (hB 0 _ rfl) (by decide) rfl dX11_nextByte_16 ?_
    refine v_iald 19 C (hB 12 _ rfl) dX11_nextByte_19 hf (fun v1 hf => ?_)
    refine v_goto (tgt := 24) 20 C dX11_nextByte_20 (by decide) ?_
    exact v_iret 24 C rfl dX11_nextByte_24 hf
theorem m_X11_nextByte {l : Launch} {E : En} {L : List Nat} (k : Nat) (hB : Bk L sh_AuntsPuzzleModel k) (σ : Sg) (o : Int32 × Sg) (hf : f_X11_nextByte k σ = some o) : Mi l yX11_nextByte cX11_nextByte 1 (some .int) (1) E L [.ref (E.2.1 (k))] σ o :=
  Mi.of RX11 rfl (by decide) (Nat.le_of_ble_eq_true rfl) (fun q hq C => by subst hq; exact k_X11_nextByte_b0 C k hB  σ hf)
def f_X11_isNext (k : Nat) (x1 : Int32) (σ : Sg) : Rs := p_call (f_X11_nextByte k σ) (fun v1 s2 => if v1 = x1 then (p_put s2 (k) 22 ((s2 (k) 22) + 1) (fun s3 => some (1, s3))) else (some (0, s2)))
set_option maxRecDepth 100000 in
set_option maxHeartbeats 4000000 in
theorem k_X11_isNext_b0 {q : Mc} {E : En} {L : List Nat} {o : Int32 × Sg} (C : Cx q E L cX11_isNext 2 RX11 (some .boolean) (2)) (k : Nat) (hB : Bk L sh_AuntsPuzzleModel k) (x1 : Int32) (σ : Sg) (hf : f_X11_isNext k x1 σ = some o) : Vx q E L 2 (some .boolean) o 0 [(0, .ref (E.2.1 (k))), (1, .int x1)] [] σ := by
  unfold f_X11_isNext at hf
  refine v_aload_n 0 C dX11_isNext_0 rfl rfl ?_
  refine v_callV (st := []) 1 C [] lm_X11_121 ly_X11_nextByte (hB 0 _ rfl) (by decide) dX11_isNext_1 rfl (by decide) rfl (Nat.le_of_ble_eq_true rfl) (fun o1 h1 => m_X11_nextByte k hB  σ o1 h1) hf (fun v1 s2 hf => ?_)
  refine v_iload_n 4 C dX11_isNext_4 rfl rfl ?_
  refine v_icmp_eq (tgt := 10) 5 C dX11_isNext_5 (by decide) hf (fun hf => ?_) (fun hf => ?_)
  · refine v_aload_n 10 C dX11_isNext_10 rfl rfl ?_
    refine v_dup 11 C dX11_isNext_11 rfl ?_
    refine v_getI (dum := 0) 12 C lk_X11_118 (hB 0 _ rfl) (by decide) rfl dX11_isNext_12 ?_
    refine v_iconst (v := 1) 15 C dX11_isNext_15 (by decide) ?_
    refine v_iadd 16 C dX11_isNext_16 ?_
    refine v_putI 17 C lp_X11_118 (hB 0 _ rfl) (by decide) rfl dX11_isNext_17 hf (fun s3 hf => ?_)
    refine v_iconst (v := 1) 20 C dX11_isNext_20 (by decide) ?_
    exact v_zretN 21 C rfl dX11_isNext_21 (by decide) hf
  · refine v_iconst (v := 0) 8 C dX11_isNext_8 (by decide) ?_
    exact v_zretN 9 C rfl dX11_isNext_9 (by decide) hf
theorem m_X11_isNext {l : Launch} {E : En} {L : List Nat} (k : Nat) (hB : Bk L sh_AuntsPuzzleModel k) (x1 : Int32) (σ : Sg) (o : Int32 × Sg) (hf : f_X11_isNext k x1 σ = some o) : Mi l yX11_isNext cX11_isNext 2 (some .boolean) (2) E L [.ref (E.2.1 (k)), .int x1] σ o :=
  Mi.of RX11 rfl (by decide) (Nat.le_of_ble_eq_true rfl) (fun q hq C => by subst hq; exact k_X11_isNext_b0 C k hB x1 σ hf)
def f_X11_number_b20 (k : Nat)  : Nat → Int32 → Int32 → Int32 → Sg → Rs
  | 0, _, _, _, _ => none
  | n + 1, x1, x2, x3, σ => if x1 ≤ x3 then (some (x2, σ)) else (p_call (f_X11_nextByte k σ) (fun v1 s2 => p_call (f_X11_isIn v1 48 57 s2) (fun v3 s4 => if v3 = 0 then (some (x2, s4)) else (p_call (f_X11_nextByte k s4) (fun v5 s6 => p_put s6 (k) 22 ((s6 (k) 22) + 1) (fun s7 => f_X11_number_b20 k n x1 (((10 * x2) + v5) - 48) (x3 + 1) s7))))))
set_option maxRecDepth 100000 in
set_option maxHeartbeats 4000000 in
theorem k_X11_number_b20 {q : Mc} {E : En} {L : List Nat} {o : Int32 × Sg} (C : Cx q E L cX11_number 4 RX11 (some .int) (2)) (k : Nat) (hB : Bk L sh_AuntsPuzzleModel k) (n : Nat) : ∀ (x1 : Int32) (x2 : Int32) (x3 : Int32) (σ : Sg), f_X11_number_b20 k n x1 x2 x3 σ = some o → Vx q E L 4 (some .int) o 20 [(0, .ref (E.2.1 (k))), (1, .int x1), (2, .int x2), (3, .int x3)] [] σ := by
  induction n with
  | zero => intro x1 x2 x3 σ hf; cases (show (none : Rs) = some o from hf)
  | succ n ih =>
    intro x1 x2 x3 σ hf
    rw [f_X11_number_b20] at hf
    refine v_iload_n 20 C dX11_number_20 rfl rfl ?_
    refine v_iload_n 21 C dX11_number_21 rfl rfl ?_
    refine v_icmp_ge (tgt := 68) 22 C dX11_number_22 (by decide) hf (fun hf => ?_) (fun hf => ?_)
    · refine v_iload_n 68 C dX11_number_68 rfl rfl ?_
      exact v_iret 69 C rfl dX11_number_69 hf
    · refine v_aload_n 25 C dX11_number_25 rfl rfl ?_
      refine v_callV (st := []) 26 C [] lm_X11_121 ly_X11_nextByte (hB 0 _ rfl) (by decide) dX11_number_26 rfl (by decide) rfl (Nat.le_of_ble_eq_true rfl) (fun o1 h1 => m_X11_nextByte k hB  σ o1 h1) hf (fun v1 s2 hf => ?_)
      refine v_bipush (v := 48) 29 C dX11_number_29 (by decide) ?_
      refine v_bipush (v := 57) 31 C dX11_number_31 (by decide) ?_
      refine v_callS (st := []) 33 C [.int v1, .int 48, .int 57] lm_X11_124 lz_X11_isIn dX11_number_33 rfl (by decide) rfl (Nat.le_of_ble_eq_true rfl) (fun o1 h1 => m_X11_isIn   v1 48 57 s2 o1 h1) hf (fun v3 s4 hf => ?_)
      refine v_if_eq (tgt := 68) 36 C dX11_number_36 (by decide) hf (fun hf => ?_) (fun hf => ?_)
      · refine v_iload_n 68 C dX11_number_68 rfl rfl ?_
        exact v_iret 69 C rfl dX11_number_69 hf
      · refine v_bipush (v := 10) 39 C dX11_number_39 (by decide) ?_
        refine v_iload_n 41 C dX11_number_41 rfl rfl ?_
        refine v_imul 42 C dX11_number_42 ?_
        refine v_aload_n 43 C dX11_number_43 rfl rfl ?_
        refine v_callV (st := [.int (10 * x2)]) 44 C [] lm_X11_121 ly_X11_nextByte (hB 0 _ rfl) (by decide) dX11_number_44 rfl (by decide) rfl (Nat.le_of_ble_eq_true rfl) (fun o1 h1 => m_X11_nextByte k hB  s4 o1 h1) hf (fun v5 s6 hf => ?_)
        refine v_iadd 47 C dX11_number_47 ?_
        refine v_bipush (v := 48) 48 C dX11_number_48 (by decide) ?_
        refine v_isub 50 C dX11_number_50 ?_
        refine v_istore_n (lv' := [(0, .ref (E.2.1 (k))), (1, .int x1), (2, .int (((10 * x2) + v5) - 48)), (3, .int x3)]) 51 C dX11_number_51 rfl (by decide) rfl rfl ?_
        refine v_aload_n 52 C dX11_number_52 rfl rfl ?_
        refine v_dup 53 C dX11_number_53 rfl ?_
        refine v_getI (dum := 0) 54 C lk_X11_118 (hB 0 _ rfl) (by decide) rfl dX11_number_54 ?_
        refine v_iconst (v := 1) 57 C dX11_number_57 (by decide) ?_
        refine v_iadd 58 C dX11_number_58 ?_
        refine v_putI 59 C lp_X11_118 (hB 0 _ rfl) (by decide) rfl dX11_number_59 hf (fun s7 hf => ?_)
        refine v_iinc (v := x3 + 1) (lv' := [(0, .ref (E.2.1 (k))), (1, .int x1), (2, .int (((10 * x2) + v5) - 48)), (3, .int (x3 + 1))]) 62 C dX11_number_62 rfl (by rfl) (by decide) rfl rfl ?_
        refine v_goto (tgt := 20) 65 C dX11_number_65 (by decide) ?_
        exact Vx.lv [0, 1, 2, 3] rfl (ih x1 (((10 * x2) + v5) - 48) (x3 + 1) s7 hf)
def f_X11_number (k : Nat) (x1 : Int32) (σ : Sg) : Rs := p_call (f_X11_nextByte k σ) (fun v1 s2 => p_call (f_X11_isIn v1 48 57 s2) (fun v3 s4 => if v3 = 0 then (some ((-1), s4)) else (f_X11_number_b20 k fu x1 0 0 s4)))
set_option maxRecDepth 100000 in
set_option maxHeartbeats 4000000 in
theorem k_X11_number_b0 {q : Mc} {E : En} {L : List Nat} {o : Int32 × Sg} (C : Cx q E L cX11_number 4 RX11 (some .int) (2)) (k : Nat) (hB : Bk L sh_AuntsPuzzleModel k) (x1 : Int32) (σ : Sg) (hf : f_X11_number k x1 σ = some o) : Vx q E L 4 (some .int) o 0 [(0, .ref (E.2.1 (k))), (1, .int x1)] [] σ := by
  unfold f_X11_number at hf
  refine v_aload_n 0 C dX11_number_0 rfl rfl ?_
  refine v_callV (st := []) 1 C [] lm_X11_121 ly_X11_nextByte (hB 0 _ rfl) (by decide) dX11_number_1 rfl (by decide) rfl (Nat.le_of_ble_eq_true rfl) (fun o1 h1 => m_X11_nextByte k hB  σ o1 h1) hf (fun v1 s2 hf => ?_)
  refine v_bipush (v := 48) 4 C dX11_number_4 (by decide) ?_
  refine v_bipush (v := 57) 6 C dX11_number_6 (by decide) ?_
  refine v_callS (st := []) 8 C [.int v1, .int 48, .int 57] lm_X11_124 lz_X11_isIn dX11_number_8 rfl (by decide) rfl (Nat.le_of_ble_eq_true rfl) (fun o1 h1 => m_X11_isIn   v1 48 57 s2 o1 h1) hf (fun v3 s4 hf => ?_)
  refine v_if_ne (tgt := 16) 11 C dX11_number_11 (by decide) hf (fun hf => ?_) (fun hf => ?_)
  · refine v_iconst (v := 0) 16 C dX11_number_16 (by decide) ?_
    refine v_istore_n (lv' := [(0, .ref (E.2.1 (k))), (1, .int x1), (2, .int 0)]) 17 C dX11_number_17 rfl (by decide) rfl rfl ?_
    refine v_iconst (v := 0) 18 C dX11_number_18 (by decide) ?_
    refine v_istore_n (lv' := [(0, .ref (E.2.1 (k))), (1, .int x1), (2, .int 0), (3, .int 0)]) 19 C dX11_number_19 rfl (by decide) rfl rfl ?_
    exact Vx.lv [0, 1, 2, 3] rfl (k_X11_number_b20 C k hB fu x1 0 0 s4 hf)
  · refine v_iconst (v := (-1)) 14 C dX11_number_14 (by decide) ?_
    exact v_iret 15 C rfl dX11_number_15 hf
theorem m_X11_number {l : Launch} {E : En} {L : List Nat} (k : Nat) (hB : Bk L sh_AuntsPuzzleModel k) (x1 : Int32) (σ : Sg) (o : Int32 × Sg) (hf : f_X11_number k x1 σ = some o) : Mi l yX11_number cX11_number 4 (some .int) (2) E L [.ref (E.2.1 (k)), .int x1] σ o :=
  Mi.of RX11 rfl (by decide) (Nat.le_of_ble_eq_true rfl) (fun q hq C => by subst hq; exact k_X11_number_b0 C k hB x1 σ hf)
def f_X11_kindOf (x0 : Int32) (σ : Sg) : Rs := if x0 = 99 then (some (1, σ)) else (if x0 = 101 then (some (2, σ)) else (if x0 = 102 then (some (0, σ)) else (if x0 = 108 then (some (3, σ)) else (if x0 = 115 then (some (4, σ)) else (some ((-1), σ))))))
set_option maxRecDepth 100000 in
set_option maxHeartbeats 4000000 in
theorem k_X11_kindOf_b0 {q : Mc} {E : En} {L : List Nat} {o : Int32 × Sg} (C : Cx q E L cX11_kindOf 1 RX11 (some .int) (1)) (x0 : Int32) (σ : Sg) (hf : f_X11_kindOf x0 σ = some o) : Vx q E L 1 (some .int) o 0 [(0, .int x0)] [] σ := by
  unfold f_X11_kindOf at hf
  refine v_iload_n 0 C dX11_kindOf_0 rfl rfl ?_
  refine v_case (v := 99) hf (fun hx hf => ?_) (fun hn0 hf => ?_)
  · refine v_look (off := 53) (tgt := 54) 1 C dX11_kindOf_1 (by decide) (by rw [hx]; try rfl) (by decide) ?_
    refine v_iconst (v := 1) 54 C dX11_kindOf_54 (by decide) ?_
    exact v_iret 55 C rfl dX11_kindOf_55 hf
  refine v_case (v := 101) hf (fun hx hf => ?_) (fun hn1 hf => ?_)
  · refine v_look (off := 55) (tgt := 56) 1 C dX11_kindOf_1 (by decide) (by rw [hx]; try rfl) (by decide) ?_
    refine v_iconst (v := 2) 56 C dX11_kindOf_56 (by decide) ?_
    exact v_iret 57 C rfl dX11_kindOf_57 hf
  refine v_case (v := 102) hf (fun hx hf => ?_) (fun hn2 hf => ?_)
  · refine v_look (off := 51) (tgt := 52) 1 C dX11_kindOf_1 (by decide) (by rw [hx]; try rfl) (by decide) ?_
    refine v_iconst (v := 0) 52 C dX11_kindOf_52 (by decide) ?_
    exact v_iret 53 C rfl dX11_kindOf_53 hf
  refine v_case (v := 108) hf (fun hx hf => ?_) (fun hn3 hf => ?_)
  · refine v_look (off := 57) (tgt := 58) 1 C dX11_kindOf_1 (by decide) (by rw [hx]; try rfl) (by decide) ?_
    refine v_iconst (v := 3) 58 C dX11_kindOf_58 (by decide) ?_
    exact v_iret 59 C rfl dX11_kindOf_59 hf
  refine v_case (v := 115) hf (fun hx hf => ?_) (fun hn4 hf => ?_)
  · refine v_look (off := 59) (tgt := 60) 1 C dX11_kindOf_1 (by decide) (by rw [hx]; try rfl) (by decide) ?_
    refine v_iconst (v := 4) 60 C dX11_kindOf_60 (by decide) ?_
    exact v_iret 61 C rfl dX11_kindOf_61 hf
  refine v_look (off := 61) (tgt := 62) 1 C dX11_kindOf_1 (by decide) (by refine (lv_osw hn0 rfl).trans ?_; refine (lv_osw hn1 rfl).trans ?_; refine (lv_osw hn2 rfl).trans ?_; refine (lv_osw hn3 rfl).trans ?_; refine (lv_osw hn4 rfl).trans ?_; rfl) (by decide) ?_
  refine v_iconst (v := (-1)) 62 C dX11_kindOf_62 (by decide) ?_
  exact v_iret 63 C rfl dX11_kindOf_63 hf
theorem m_X11_kindOf {l : Launch} {E : En} {L : List Nat} (x0 : Int32) (σ : Sg) (o : Int32 × Sg) (hf : f_X11_kindOf x0 σ = some o) : Mi l yX11_kindOf cX11_kindOf 1 (some .int) (1) E L [.int x0] σ o :=
  Mi.of RX11 rfl (by decide) (Nat.le_of_ble_eq_true rfl) (fun q hq C => by subst hq; exact k_X11_kindOf_b0 C   x0 σ hf)
def f_X11_readsEdge_b103 (k : Nat) (x1 : Int32) (t0 : Int32) (σ : Sg) : Rs := if t0 = 0 then (some (0, σ)) else (p_put σ (k) 22 ((σ (k) 22) + 1) (fun s1 => p_call (f_X11_number k 1 s1) (fun v2 s3 => if 0 ≤ v2 then (p_wr s3 (k + 17) 32 x1 (t0 * v2) (fun s4 => p_call (f_X11_isNext k 59 s4) (fun v5 s6 => p_bo v5 (some (v5, s6))))) else (some (0, s3)))))
set_option maxRecDepth 100000 in
set_option maxHeartbeats 4000000 in
theorem k_X11_readsEdge_b103 {q : Mc} {E : En} {L : List Nat} {o : Int32 × Sg} (C : Cx q E L cX11_readsEdge 4 RX11 (some .boolean) (3)) (k : Nat) (hB : Bk L sh_AuntsPuzzleModel k) (x1 : Int32) (t0 : Int32) (σ : Sg) (hf : f_X11_readsEdge_b103 k x1 t0 σ = some o) : Vx q E L 4 (some .boolean) o 103 [(0, .ref (E.2.1 (k))), (1, .int x1)] [.int t0] σ := by
  unfold f_X11_readsEdge_b103 at hf
  refine v_istore_n (lv' := [(0, .ref (E.2.1 (k))), (1, .int x1), (2, .int t0)]) 103 C dX11_readsEdge_103 rfl (by decide) rfl rfl ?_
  refine v_iload_n 104 C dX11_readsEdge_104 rfl rfl ?_
  refine v_if_ne (tgt := 110) 105 C dX11_readsEdge_105 (by decide) hf (fun hf => ?_) (fun hf => ?_)
  · refine v_aload_n 110 C dX11_readsEdge_110 rfl rfl ?_
    refine v_dup 111 C dX11_readsEdge_111 rfl ?_
    refine v_getI (dum := 0) 112 C lk_X11_118 (hB 0 _ rfl) (by decide) rfl dX11_readsEdge_112 ?_
    refine v_iconst (v := 1) 115 C dX11_readsEdge_115 (by decide) ?_
    refine v_iadd 116 C dX11_readsEdge_116 ?_
    refine v_putI 117 C lp_X11_118 (hB 0 _ rfl) (by decide) rfl dX11_readsEdge_117 hf (fun s1 hf => ?_)
    refine v_aload_n 120 C dX11_readsEdge_120 rfl rfl ?_
    refine v_iconst (v := 1) 121 C dX11_readsEdge_121 (by decide) ?_
    refine v_callV (st := []) 122 C [.int 1] lm_X11_128 ly_X11_number (hB 0 _ rfl) (by decide) dX11_readsEdge_122 rfl (by decide) rfl (Nat.le_of_ble_eq_true rfl) (fun o1 h1 => m_X11_number k hB 1 s1 o1 h1) hf (fun v2 s3 hf => ?_)
    refine v_istore_n (lv' := [(0, .ref (E.2.1 (k))), (1, .int x1), (2, .int t0), (3, .int v2)]) 125 C dX11_readsEdge_125 rfl (by decide) rfl rfl ?_
    refine v_iload_n 126 C dX11_readsEdge_126 rfl rfl ?_
    refine v_if_ge (tgt := 132) 127 C dX11_readsEdge_127 (by decide) hf (fun hf => ?_) (fun hf => ?_)
    · refine v_aload_n 132 C dX11_readsEdge_132 rfl rfl ?_
      refine v_getR 133 C lk_X11_58 (hB 0 _ rfl) (by decide) rfl dX11_readsEdge_133 ?_
      refine v_iload_n 136 C dX11_readsEdge_136 rfl rfl ?_
      refine v_iload_n 137 C dX11_readsEdge_137 rfl rfl ?_
      refine v_iload_n 138 C dX11_readsEdge_138 rfl rfl ?_
      refine v_imul 139 C dX11_readsEdge_139 ?_
      refine v_iast 140 C (hB 17 _ rfl) dX11_readsEdge_140 hf (fun s4 hf => ?_)
      refine v_aload_n 141 C dX11_readsEdge_141 rfl rfl ?_
      refine v_bipush (v := 59) 142 C dX11_readsEdge_142 (by decide) ?_
      refine v_callV (st := []) 144 C [.int 59] lm_X11_131 ly_X11_isNext (hB 0 _ rfl) (by decide) dX11_readsEdge_144 rfl (by decide) rfl (Nat.le_of_ble_eq_true rfl) (fun o1 h1 => m_X11_isNext k hB 59 s4 o1 h1) hf (fun v5 s6 hf => ?_)
      exact v_zret 147 C rfl dX11_readsEdge_147 hf
    · refine v_iconst (v := 0) 130 C dX11_readsEdge_130 (by decide) ?_
      exact v_zretN 131 C rfl dX11_readsEdge_131 (by decide) hf
  · refine v_iconst (v := 0) 108 C dX11_readsEdge_108 (by decide) ?_
    exact v_zretN 109 C rfl dX11_readsEdge_109 (by decide) hf
def f_X11_readsEdge_b54 (k : Nat) (x1 : Int32) (t1 : Int32) (t2 : Int32) (σ : Sg) : Rs := p_wr σ (k + 16) 32 t1 t2 (fun s1 => p_rd s1 (k + 16) 32 x1 (fun v2 => if 0 ≤ v2 then (p_put s1 (k) 22 ((s1 (k) 22) + 1) (fun s3 => p_call (f_X11_nextByte k s3) (fun v4 s5 => if v4 = 43 then (f_X11_readsEdge_b103 k x1 1 s5) else (p_call (f_X11_nextByte k s5) (fun v6 s7 => if v6 = 45 then (f_X11_readsEdge_b103 k x1 (-1) s7) else (f_X11_readsEdge_b103 k x1 0 s7)))))) else (some (0, s1))))
set_option maxRecDepth 100000 in
set_option maxHeartbeats 4000000 in
theorem k_X11_readsEdge_b54 {q : Mc} {E : En} {L : List Nat} {o : Int32 × Sg} (C : Cx q E L cX11_readsEdge 4 RX11 (some .boolean) (3)) (k : Nat) (hB : Bk L sh_AuntsPuzzleModel k) (x1 : Int32) (t1 : Int32) (t2 : Int32) (σ : Sg) (hf : f_X11_readsEdge_b54 k x1 t1 t2 σ = some o) : Vx q E L 4 (some .boolean) o 54 [(0, .ref (E.2.1 (k))), (1, .int x1)] [.int t2, .int t1, .ref (E.2.1 (k + 16))] σ := by
  unfold f_X11_readsEdge_b54 at hf
  refine v_iast 54 C (hB 16 _ rfl) dX11_readsEdge_54 hf (fun s1 hf => ?_)
  refine v_aload_n 55 C dX11_readsEdge_55 rfl rfl ?_
  refine v_getR 56 C lk_X11_55 (hB 0 _ rfl) (by decide) rfl dX11_readsEdge_56 ?_
  refine v_iload_n 59 C dX11_readsEdge_59 rfl rfl ?_
  refine v_iald 60 C (hB 16 _ rfl) dX11_readsEdge_60 hf (fun v2 hf => ?_)
  refine v_if_ge (tgt := 66) 61 C dX11_readsEdge_61 (by decide) hf (fun hf => ?_) (fun hf => ?_)
  · refine v_aload_n 66 C dX11_readsEdge_66 rfl rfl ?_
    refine v_dup 67 C dX11_readsEdge_67 rfl ?_
    refine v_getI (dum := 0) 68 C lk_X11_118 (hB 0 _ rfl) (by decide) rfl dX11_readsEdge_68 ?_
    refine v_iconst (v := 1) 71 C dX11_readsEdge_71 (by decide) ?_
    refine v_iadd 72 C dX11_readsEdge_72 ?_
    refine v_putI 73 C lp_X11_118 (hB 0 _ rfl) (by decide) rfl dX11_readsEdge_73 hf (fun s3 hf => ?_)
    refine v_aload_n 76 C dX11_readsEdge_76 rfl rfl ?_
    refine v_callV (st := []) 77 C [] lm_X11_121 ly_X11_nextByte (hB 0 _ rfl) (by decide) dX11_readsEdge_77 rfl (by decide) rfl (Nat.le_of_ble_eq_true rfl) (fun o1 h1 => m_X11_nextByte k hB  s3 o1 h1) hf (fun v4 s5 hf => ?_)
    refine v_bipush (v := 43) 80 C dX11_readsEdge_80 (by decide) ?_
    refine v_icmp_ne (tgt := 89) 82 C dX11_readsEdge_82 (by decide) hf (fun hf => ?_) (fun hf => ?_)
    · refine v_aload_n 89 C dX11_readsEdge_89 rfl rfl ?_
      refine v_callV (st := []) 90 C [] lm_X11_121 ly_X11_nextByte (hB 0 _ rfl) (by decide) dX11_readsEdge_90 rfl (by decide) rfl (Nat.le_of_ble_eq_true rfl) (fun o1 h1 => m_X11_nextByte k hB  s5 o1 h1) hf (fun v6 s7 hf => ?_)
      refine v_bipush (v := 45) 93 C dX11_readsEdge_93 (by decide) ?_
      refine v_icmp_ne (tgt := 102) 95 C dX11_readsEdge_95 (by decide) hf (fun hf => ?_) (fun hf => ?_)
      · refine v_iconst (v := 0) 102 C dX11_readsEdge_102 (by decide) ?_
        exact Vx.lv [0, 1] rfl (k_X11_readsEdge_b103 C k hB x1 0 s7 hf)
      · refine v_iconst (v := (-1)) 98 C dX11_readsEdge_98 (by decide) ?_
        refine v_goto (tgt := 103) 99 C dX11_readsEdge_99 (by decide) ?_
        exact Vx.lv [0, 1] rfl (k_X11_readsEdge_b103 C k hB x1 (-1) s7 hf)
    · refine v_iconst (v := 1) 85 C dX11_readsEdge_85 (by decide) ?_
      refine v_goto (tgt := 103) 86 C dX11_readsEdge_86 (by decide) ?_
      exact Vx.lv [0, 1] rfl (k_X11_readsEdge_b103 C k hB x1 1 s5 hf)
  · refine v_iconst (v := 0) 64 C dX11_readsEdge_64 (by decide) ?_
    exact v_zretN 65 C rfl dX11_readsEdge_65 (by decide) hf
def f_X11_readsEdge (k : Nat) (x1 : Int32) (σ : Sg) : Rs := p_call (f_X11_number k 2 σ) (fun v1 s2 => p_wr s2 (k + 15) 32 x1 v1 (fun s3 => p_rd s3 (k + 15) 32 x1 (fun v4 => if 0 ≤ v4 then (p_call (f_X11_nextByte k s3) (fun v5 s6 => if v5 = 114 then (f_X11_readsEdge_b54 k x1 x1 0 s6) else (p_call (f_X11_nextByte k s6) (fun v7 s8 => if v7 = 100 then (f_X11_readsEdge_b54 k x1 x1 1 s8) else (f_X11_readsEdge_b54 k x1 x1 (-1) s8))))) else (some (0, s3)))))
set_option maxRecDepth 100000 in
set_option maxHeartbeats 4000000 in
theorem k_X11_readsEdge_b0 {q : Mc} {E : En} {L : List Nat} {o : Int32 × Sg} (C : Cx q E L cX11_readsEdge 4 RX11 (some .boolean) (3)) (k : Nat) (hB : Bk L sh_AuntsPuzzleModel k) (x1 : Int32) (σ : Sg) (hf : f_X11_readsEdge k x1 σ = some o) : Vx q E L 4 (some .boolean) o 0 [(0, .ref (E.2.1 (k))), (1, .int x1)] [] σ := by
  unfold f_X11_readsEdge at hf
  refine v_aload_n 0 C dX11_readsEdge_0 rfl rfl ?_
  refine v_getR 1 C lk_X11_52 (hB 0 _ rfl) (by decide) rfl dX11_readsEdge_1 ?_
  refine v_iload_n 4 C dX11_readsEdge_4 rfl rfl ?_
  refine v_aload_n 5 C dX11_readsEdge_5 rfl rfl ?_
  refine v_iconst (v := 2) 6 C dX11_readsEdge_6 (by decide) ?_
  refine v_callV (st := [.int x1, .ref (E.2.1 (k + 15))]) 7 C [.int 2] lm_X11_128 ly_X11_number (hB 0 _ rfl) (by decide) dX11_readsEdge_7 rfl (by decide) rfl (Nat.le_of_ble_eq_true rfl) (fun o1 h1 => m_X11_number k hB 2 σ o1 h1) hf (fun v1 s2 hf => ?_)
  refine v_iast 10 C (hB 15 _ rfl) dX11_readsEdge_10 hf (fun s3 hf => ?_)
  refine v_aload_n 11 C dX11_readsEdge_11 rfl rfl ?_
  refine v_getR 12 C lk_X11_52 (hB 0 _ rfl) (by decide) rfl dX11_readsEdge_12 ?_
  refine v_iload_n 15 C dX11_readsEdge_15 rfl rfl ?_
  refine v_iald 16 C (hB 15 _ rfl) dX11_readsEdge_16 hf (fun v4 hf => ?_)
  refine v_if_ge (tgt := 22) 17 C dX11_readsEdge_17 (by decide) hf (fun hf => ?_) (fun hf => ?_)
  · refine v_aload_n 22 C dX11_readsEdge_22 rfl rfl ?_
    refine v_getR 23 C lk_X11_55 (hB 0 _ rfl) (by decide) rfl dX11_readsEdge_23 ?_
    refine v_iload_n 26 C dX11_readsEdge_26 rfl rfl ?_
    refine v_aload_n 27 C dX11_readsEdge_27 rfl rfl ?_
    refine v_callV (st := [.int x1, .ref (E.2.1 (k + 16))]) 28 C [] lm_X11_121 ly_X11_nextByte (hB 0 _ rfl) (by decide) dX11_readsEdge_28 rfl (by decide) rfl (Nat.le_of_ble_eq_true rfl) (fun o1 h1 => m_X11_nextByte k hB  s3 o1 h1) hf (fun v5 s6 hf => ?_)
    refine v_bipush (v := 114) 31 C dX11_readsEdge_31 (by decide) ?_
    refine v_icmp_ne (tgt := 40) 33 C dX11_readsEdge_33 (by decide) hf (fun hf => ?_) (fun hf => ?_)
    · refine v_aload_n 40 C dX11_readsEdge_40 rfl rfl ?_
      refine v_callV (st := [.int x1, .ref (E.2.1 (k + 16))]) 41 C [] lm_X11_121 ly_X11_nextByte (hB 0 _ rfl) (by decide) dX11_readsEdge_41 rfl (by decide) rfl (Nat.le_of_ble_eq_true rfl) (fun o1 h1 => m_X11_nextByte k hB  s6 o1 h1) hf (fun v7 s8 hf => ?_)
      refine v_bipush (v := 100) 44 C dX11_readsEdge_44 (by decide) ?_
      refine v_icmp_ne (tgt := 53) 46 C dX11_readsEdge_46 (by decide) hf (fun hf => ?_) (fun hf => ?_)
      · refine v_iconst (v := (-1)) 53 C dX11_readsEdge_53 (by decide) ?_
        exact Vx.lv [0, 1] rfl (k_X11_readsEdge_b54 C k hB x1 x1 (-1) s8 hf)
      · refine v_iconst (v := 1) 49 C dX11_readsEdge_49 (by decide) ?_
        refine v_goto (tgt := 54) 50 C dX11_readsEdge_50 (by decide) ?_
        exact Vx.lv [0, 1] rfl (k_X11_readsEdge_b54 C k hB x1 x1 1 s8 hf)
    · refine v_iconst (v := 0) 36 C dX11_readsEdge_36 (by decide) ?_
      refine v_goto (tgt := 54) 37 C dX11_readsEdge_37 (by decide) ?_
      exact Vx.lv [0, 1] rfl (k_X11_readsEdge_b54 C k hB x1 x1 0 s6 hf)
  · refine v_iconst (v := 0) 20 C dX11_readsEdge_20 (by decide) ?_
    exact v_zretN 21 C rfl dX11_readsEdge_21 (by decide) hf
theorem m_X11_readsEdge {l : Launch} {E : En} {L : List Nat} (k : Nat) (hB : Bk L sh_AuntsPuzzleModel k) (x1 : Int32) (σ : Sg) (o : Int32 × Sg) (hf : f_X11_readsEdge k x1 σ = some o) : Mi l yX11_readsEdge cX11_readsEdge 4 (some .boolean) (3) E L [.ref (E.2.1 (k)), .int x1] σ o :=
  Mi.of RX11 rfl (by decide) (Nat.le_of_ble_eq_true rfl) (fun q hq C => by subst hq; exact k_X11_readsEdge_b0 C k hB x1 σ hf)
def f_X11_statement_b165 (k : Nat) (x1 : Int32) (σ : Sg) : Rs := p_call (f_X11_number k 1 σ) (fun v1 s2 => p_wr s2 (k + 16) 32 x1 v1 (fun s3 => p_rd s3 (k + 16) 32 x1 (fun v4 => if v4 < 0 then (some (0, s3)) else (p_call (f_X11_isNext k 59 s3) (fun v5 s6 => if v5 = 0 then (some (0, s6)) else (some (1, s6)))))))
set_option maxRecDepth 100000 in
set_option maxHeartbeats 4000000 in
theorem k_X11_statement_b165 {q : Mc} {E : En} {L : List Nat} {o : Int32 × Sg} (C : Cx q E L cX11_statement 3 RX11 (some .boolean) (4)) (k : Nat) (hB : Bk L sh_AuntsPuzzleModel k) (x1 : Int32) (σ : Sg) (hf : f_X11_statement_b165 k x1 σ = some o) : Vx q E L 3 (some .boolean) o 165 [(0, .ref (E.2.1 (k))), (1, .int x1)] [] σ := by
  unfold f_X11_statement_b165 at hf
  refine v_aload_n 165 C dX11_statement_165 rfl rfl ?_
  refine v_getR 166 C lk_X11_55 (hB 0 _ rfl) (by decide) rfl dX11_statement_166 ?_
  refine v_iload_n 169 C dX11_statement_169 rfl rfl ?_
  refine v_aload_n 170 C dX11_statement_170 rfl rfl ?_
  refine v_iconst (v := 1) 171 C dX11_statement_171 (by decide) ?_
  refine v_callV (st := [.int x1, .ref (E.2.1 (k + 16))]) 172 C [.int 1] lm_X11_128 ly_X11_number (hB 0 _ rfl) (by decide) dX11_statement_172 rfl (by decide) rfl (Nat.le_of_ble_eq_true rfl) (fun o1 h1 => m_X11_number k hB 1 σ o1 h1) hf (fun v1 s2 hf => ?_)
  refine v_iast 175 C (hB 16 _ rfl) dX11_statement_175 hf (fun s3 hf => ?_)
  refine v_aload_n 176 C dX11_statement_176 rfl rfl ?_
  refine v_getR 177 C lk_X11_55 (hB 0 _ rfl) (by decide) rfl dX11_statement_177 ?_
  refine v_iload_n 180 C dX11_statement_180 rfl rfl ?_
  refine v_iald 181 C (hB 16 _ rfl) dX11_statement_181 hf (fun v4 hf => ?_)
  refine v_if_lt (tgt := 198) 182 C dX11_statement_182 (by decide) hf (fun hf => ?_) (fun hf => ?_)
  · refine v_iconst (v := 0) 198 C dX11_statement_198 (by decide) ?_
    exact v_zretN 199 C rfl dX11_statement_199 (by decide) hf
  · refine v_aload_n 185 C dX11_statement_185 rfl rfl ?_
    refine v_bipush (v := 59) 186 C dX11_statement_186 (by decide) ?_
    refine v_callV (st := []) 188 C [.int 59] lm_X11_131 ly_X11_isNext (hB 0 _ rfl) (by decide) dX11_statement_188 rfl (by decide) rfl (Nat.le_of_ble_eq_true rfl) (fun o1 h1 => m_X11_isNext k hB 59 s3 o1 h1) hf (fun v5 s6 hf => ?_)
    refine v_if_eq (tgt := 198) 191 C dX11_statement_191 (by decide) hf (fun hf => ?_) (fun hf => ?_)
    · refine v_iconst (v := 0) 198 C dX11_statement_198 (by decide) ?_
      exact v_zretN 199 C rfl dX11_statement_199 (by decide) hf
    · refine v_iconst (v := 1) 194 C dX11_statement_194 (by decide) ?_
      refine v_goto (tgt := 199) 195 C dX11_statement_195 (by decide) ?_
      exact v_zretN 199 C rfl dX11_statement_199 (by decide) hf
def f_X11_statement_b135 (k : Nat) (x1 : Int32) (x2 : Int32) (t1 : Int32) (t3 : Int32) (σ : Sg) : Rs := p_call (f_X11_number k t3 σ) (fun v1 s2 => p_wr s2 (k + 15) 32 t1 v1 (fun s3 => p_rd s3 (k + 15) 32 x1 (fun v4 => if v4 < 0 then (some (0, s3)) else (if x2 = 99 then (p_call (f_X11_isNext k 44 s3) (fun v5 s6 => if v5 = 0 then (some (0, s6)) else (f_X11_statement_b165 k x1 s6))) else (f_X11_statement_b165 k x1 s3)))))
set_option maxRecDepth 100000 in
set_option maxHeartbeats 4000000 in
theorem k_X11_statement_b135 {q : Mc} {E : En} {L : List Nat} {o : Int32 × Sg} (C : Cx q E L cX11_statement 3 RX11 (some .boolean) (4)) (k : Nat) (hB : Bk L sh_AuntsPuzzleModel k) (x1 : Int32) (x2 : Int32) (t1 : Int32) (t3 : Int32) (σ : Sg) (hf : f_X11_statement_b135 k x1 x2 t1 t3 σ = some o) : Vx q E L 3 (some .boolean) o 135 [(0, .ref (E.2.1 (k))), (1, .int x1), (2, .int x2)] [.int t3, .ref (E.2.1 (k)), .int t1, .ref (E.2.1 (k + 15))] σ := by
  unfold f_X11_statement_b135 at hf
  refine v_callV (st := [.int t1, .ref (E.2.1 (k + 15))]) 135 C [.int t3] lm_X11_128 ly_X11_number (hB 0 _ rfl) (by decide) dX11_statement_135 rfl (by decide) rfl (Nat.le_of_ble_eq_true rfl) (fun o1 h1 => m_X11_number k hB t3 σ o1 h1) hf (fun v1 s2 hf => ?_)
  refine v_iast 138 C (hB 15 _ rfl) dX11_statement_138 hf (fun s3 hf => ?_)
  refine v_aload_n 139 C dX11_statement_139 rfl rfl ?_
  refine v_getR 140 C lk_X11_52 (hB 0 _ rfl) (by decide) rfl dX11_statement_140 ?_
  refine v_iload_n 143 C dX11_statement_143 rfl rfl ?_
  refine v_iald 144 C (hB 15 _ rfl) dX11_statement_144 hf (fun v4 hf => ?_)
  refine v_if_lt (tgt := 163) 145 C dX11_statement_145 (by decide) hf (fun hf => ?_) (fun hf => ?_)
  · refine v_iconst (v := 0) 163 C dX11_statement_163 (by decide) ?_
    exact v_zretN 164 C rfl dX11_statement_164 (by decide) hf
  · refine v_iload_n 148 C dX11_statement_148 rfl rfl ?_
    refine v_bipush (v := 99) 149 C dX11_statement_149 (by decide) ?_
    refine v_icmp_ne (tgt := 165) 151 C dX11_statement_151 (by decide) hf (fun hf => ?_) (fun hf => ?_)
    · exact Vx.lv [0, 1] rfl (k_X11_statement_b165 C k hB x1 s3 hf)
    · refine v_aload_n 154 C dX11_statement_154 rfl rfl ?_
      refine v_bipush (v := 44) 155 C dX11_statement_155 (by decide) ?_
      refine v_callV (st := []) 157 C [.int 44] lm_X11_131 ly_X11_isNext (hB 0 _ rfl) (by decide) dX11_statement_157 rfl (by decide) rfl (Nat.le_of_ble_eq_true rfl) (fun o1 h1 => m_X11_isNext k hB 44 s3 o1 h1) hf (fun v5 s6 hf => ?_)
      refine v_if_ne (tgt := 165) 160 C dX11_statement_160 (by decide) hf (fun hf => ?_) (fun hf => ?_)
      · exact Vx.lv [0, 1] rfl (k_X11_statement_b165 C k hB x1 s6 hf)
      · refine v_iconst (v := 0) 163 C dX11_statement_163 (by decide) ?_
        exact v_zretN 164 C rfl dX11_statement_164 (by decide) hf
def f_X11_statement_b36 (k : Nat) (x1 : Int32) (x2 : Int32) (σ : Sg) : Rs := p_wr σ (k + 13) 32 x1 x2 (fun s1 => p_wr s1 (k + 14) 32 x1 (s1 (k) 22) (fun s2 => p_put s2 (k) 22 ((s2 (k) 22) + 1) (fun s3 => if x2 = 101 then (p_call (f_X11_readsEdge k x1 s3) (fun v11 s12 => p_bo v11 (some (v11, s12)))) else (if x2 = 112 then (p_call (f_X11_nextByte k s3) (fun v4 s5 => p_call (f_X11_kindOf v4 s5) (fun v6 s7 => p_wr s7 (k + 15) 32 x1 v6 (fun s8 => p_rd s8 (k + 15) 32 x1 (fun v9 => if 0 ≤ v9 then (p_put s8 (k) 22 ((s8 (k) 22) + 1) (fun s10 => f_X11_statement_b165 k x1 s10)) else (some (0, s8))))))) else (if x2 = 122 then (f_X11_statement_b135 k x1 x2 x1 1 s3) else (f_X11_statement_b135 k x1 x2 x1 2 s3))))))
set_option maxRecDepth 100000 in
set_option maxHeartbeats 4000000 in
theorem k_X11_statement_b36 {q : Mc} {E : En} {L : List Nat} {o : Int32 × Sg} (C : Cx q E L cX11_statement 3 RX11 (some .boolean) (4)) (k : Nat) (hB : Bk L sh_AuntsPuzzleModel k) (x1 : Int32) (x2 : Int32) (σ : Sg) (hf : f_X11_statement_b36 k x1 x2 σ = some o) : Vx q E L 3 (some .boolean) o 36 [(0, .ref (E.2.1 (k))), (1, .int x1), (2, .int x2)] [] σ := by
  unfold f_X11_statement_b36 at hf
  refine v_aload_n 36 C dX11_statement_36 rfl rfl ?_
  refine v_getR 37 C lk_X11_46 (hB 0 _ rfl) (by decide) rfl dX11_statement_37 ?_
  refine v_iload_n 40 C dX11_statement_40 rfl rfl ?_
  refine v_iload_n 41 C dX11_statement_41 rfl rfl ?_
  refine v_iast 42 C (hB 13 _ rfl) dX11_statement_42 hf (fun s1 hf => ?_)
  refine v_aload_n 43 C dX11_statement_43 rfl rfl ?_
  refine v_getR 44 C lk_X11_49 (hB 0 _ rfl) (by decide) rfl dX11_statement_44 ?_
  refine v_iload_n 47 C dX11_statement_47 rfl rfl ?_
  refine v_aload_n 48 C dX11_statement_48 rfl rfl ?_
  refine v_getI (dum := 0) 49 C lk_X11_118 (hB 0 _ rfl) (by decide) rfl dX11_statement_49 ?_
  refine v_iast 52 C (hB 14 _ rfl) dX11_statement_52 hf (fun s2 hf => ?_)
  refine v_aload_n 53 C dX11_statement_53 rfl rfl ?_
  refine v_dup 54 C dX11_statement_54 rfl ?_
  refine v_getI (dum := 0) 55 C lk_X11_118 (hB 0 _ rfl) (by decide) rfl dX11_statement_55 ?_
  refine v_iconst (v := 1) 58 C dX11_statement_58 (by decide) ?_
  refine v_iadd 59 C dX11_statement_59 ?_
  refine v_putI 60 C lp_X11_118 (hB 0 _ rfl) (by decide) rfl dX11_statement_60 hf (fun s3 hf => ?_)
  refine v_iload_n 63 C dX11_statement_63 rfl rfl ?_
  refine v_bipush (v := 101) 64 C dX11_statement_64 (by decide) ?_
  refine v_icmp_ne (tgt := 75) 66 C dX11_statement_66 (by decide) hf (fun hf => ?_) (fun hf => ?_)
  · refine v_iload_n 75 C dX11_statement_75 rfl rfl ?_
    refine v_bipush (v := 112) 76 C dX11_statement_76 (by decide) ?_
    refine v_icmp_ne (tgt := 118) 78 C dX11_statement_78 (by decide) hf (fun hf => ?_) (fun hf => ?_)
    · refine v_aload_n 118 C dX11_statement_118 rfl rfl ?_
      refine v_getR 119 C lk_X11_52 (hB 0 _ rfl) (by decide) rfl dX11_statement_119 ?_
      refine v_iload_n 122 C dX11_statement_122 rfl rfl ?_
      refine v_aload_n 123 C dX11_statement_123 rfl rfl ?_
      refine v_iload_n 124 C dX11_statement_124 rfl rfl ?_
      refine v_bipush (v := 122) 125 C dX11_statement_125 (by decide) ?_
      refine v_icmp_ne (tgt := 134) 127 C dX11_statement_127 (by decide) hf (fun hf => ?_) (fun hf => ?_)
      · refine v_iconst (v := 2) 134 C dX11_statement_134 (by decide) ?_
        exact Vx.lv [0, 1, 2] rfl (k_X11_statement_b135 C k hB x1 x2 x1 2 s3 hf)
      · refine v_iconst (v := 1) 130 C dX11_statement_130 (by decide) ?_
        refine v_goto (tgt := 135) 131 C dX11_statement_131 (by decide) ?_
        exact Vx.lv [0, 1, 2] rfl (k_X11_statement_b135 C k hB x1 x2 x1 1 s3 hf)
    · refine v_aload_n 81 C dX11_statement_81 rfl rfl ?_
      refine v_getR 82 C lk_X11_52 (hB 0 _ rfl) (by decide) rfl dX11_statement_82 ?_
      refine v_iload_n 85 C dX11_statement_85 rfl rfl ?_
      refine v_aload_n 86 C dX11_statement_86 rfl rfl ?_
      refine v_callV (st := [.int x1, .ref (E.2.1 (k + 15))]) 87 C [] lm_X11_121 ly_X11_nextByte (hB 0 _ rfl) (by decide) dX11_statement_87 rfl (by decide) rfl (Nat.le_of_ble_eq_true rfl) (fun o1 h1 => m_X11_nextByte k hB  s3 o1 h1) hf (fun v4 s5 hf => ?_)
      refine v_callS (st := [.int x1, .ref (E.2.1 (k + 15))]) 90 C [.int v4] lm_X11_141 lz_X11_kindOf dX11_statement_90 rfl (by decide) rfl (Nat.le_of_ble_eq_true rfl) (fun o1 h1 => m_X11_kindOf   v4 s5 o1 h1) hf (fun v6 s7 hf => ?_)
      refine v_iast 93 C (hB 15 _ rfl) dX11_statement_93 hf (fun s8 hf => ?_)
      refine v_aload_n 94 C dX11_statement_94 rfl rfl ?_
      refine v_getR 95 C lk_X11_52 (hB 0 _ rfl) (by decide) rfl dX11_statement_95 ?_
      refine v_iload_n 98 C dX11_statement_98 rfl rfl ?_
      refine v_iald 99 C (hB 15 _ rfl) dX11_statement_99 hf (fun v9 hf => ?_)
      refine v_if_ge (tgt := 105) 100 C dX11_statement_100 (by decide) hf (fun hf => ?_) (fun hf => ?_)
      · refine v_aload_n 105 C dX11_statement_105 rfl rfl ?_
        refine v_dup 106 C dX11_statement_106 rfl ?_
        refine v_getI (dum := 0) 107 C lk_X11_118 (hB 0 _ rfl) (by decide) rfl dX11_statement_107 ?_
        refine v_iconst (v := 1) 110 C dX11_statement_110 (by decide) ?_
        refine v_iadd 111 C dX11_statement_111 ?_
        refine v_putI 112 C lp_X11_118 (hB 0 _ rfl) (by decide) rfl dX11_statement_112 hf (fun s10 hf => ?_)
        refine v_goto (tgt := 165) 115 C dX11_statement_115 (by decide) ?_
        exact Vx.lv [0, 1] rfl (k_X11_statement_b165 C k hB x1 s10 hf)
      · refine v_iconst (v := 0) 103 C dX11_statement_103 (by decide) ?_
        exact v_zretN 104 C rfl dX11_statement_104 (by decide) hf
  · refine v_aload_n 69 C dX11_statement_69 rfl rfl ?_
    refine v_iload_n 70 C dX11_statement_70 rfl rfl ?_
    refine v_callV (st := []) 71 C [.int x1] lm_X11_138 ly_X11_readsEdge (hB 0 _ rfl) (by decide) dX11_statement_71 rfl (by decide) rfl (Nat.le_of_ble_eq_true rfl) (fun o1 h1 => m_X11_readsEdge k hB x1 s3 o1 h1) hf (fun v11 s12 hf => ?_)
    exact v_zret 74 C rfl dX11_statement_74 hf
def f_X11_statement (k : Nat) (σ : Sg) : Rs := p_call (f_X11_nextByte k σ) (fun v1 s2 => if v1 = 122 then (f_X11_statement_b36 k (σ (k) 23) v1 s2) else (if v1 = 101 then (f_X11_statement_b36 k (σ (k) 23) v1 s2) else (if v1 = 99 then (f_X11_statement_b36 k (σ (k) 23) v1 s2) else (if v1 = 112 then (f_X11_statement_b36 k (σ (k) 23) v1 s2) else (some (0, s2))))))
set_option maxRecDepth 100000 in
set_option maxHeartbeats 4000000 in
theorem k_X11_statement_b0 {q : Mc} {E : En} {L : List Nat} {o : Int32 × Sg} (C : Cx q E L cX11_statement 3 RX11 (some .boolean) (4)) (k : Nat) (hB : Bk L sh_AuntsPuzzleModel k) (σ : Sg) (hf : f_X11_statement k σ = some o) : Vx q E L 3 (some .boolean) o 0 [(0, .ref (E.2.1 (k)))] [] σ := by
  unfold f_X11_statement at hf
  refine v_aload_n 0 C dX11_statement_0 rfl rfl ?_
  refine v_getI (dum := 0) 1 C lk_X11_135 (hB 0 _ rfl) (by decide) rfl dX11_statement_1 ?_
  refine v_istore_n (lv' := [(0, .ref (E.2.1 (k))), (1, .int (σ (k) 23))]) 4 C dX11_statement_4 rfl (by decide) rfl rfl ?_
  refine v_aload_n 5 C dX11_statement_5 rfl rfl ?_
  refine v_callV (st := []) 6 C [] lm_X11_121 ly_X11_nextByte (hB 0 _ rfl) (by decide) dX11_statement_6 rfl (by decide) rfl (Nat.le_of_ble_eq_true rfl) (fun o1 h1 => m_X11_nextByte k hB  σ o1 h1) hf (fun v1 s2 hf => ?_)
  refine v_istore_n (lv' := [(0, .ref (E.2.1 (k))), (1, .int (σ (k) 23)), (2, .int v1)]) 9 C dX11_statement_9 rfl (by decide) rfl rfl ?_
  refine v_iload_n 10 C dX11_statement_10 rfl rfl ?_
  refine v_bipush (v := 122) 11 C dX11_statement_11 (by decide) ?_
  refine v_icmp_eq (tgt := 36) 13 C dX11_statement_13 (by decide) hf (fun hf => ?_) (fun hf => ?_)
  · exact Vx.lv [0, 1, 2] rfl (k_X11_statement_b36 C k hB (σ (k) 23) v1 s2 hf)
  · refine v_iload_n 16 C dX11_statement_16 rfl rfl ?_
    refine v_bipush (v := 101) 17 C dX11_statement_17 (by decide) ?_
    refine v_icmp_eq (tgt := 36) 19 C dX11_statement_19 (by decide) hf (fun hf => ?_) (fun hf => ?_)
    · exact Vx.lv [0, 1, 2] rfl (k_X11_statement_b36 C k hB (σ (k) 23) v1 s2 hf)
    · refine v_iload_n 22 C dX11_statement_22 rfl rfl ?_
      refine v_bipush (v := 99) 23 C dX11_statement_23 (by decide) ?_
      refine v_icmp_eq (tgt := 36) 25 C dX11_statement_25 (by decide) hf (fun hf => ?_) (fun hf => ?_)
      · exact Vx.lv [0, 1, 2] rfl (k_X11_statement_b36 C k hB (σ (k) 23) v1 s2 hf)
      · refine v_iload_n 28 C dX11_statement_28 rfl rfl ?_
        refine v_bipush (v := 112) 29 C dX11_statement_29 (by decide) ?_
        refine v_icmp_eq (tgt := 36) 31 C dX11_statement_31 (by decide) hf (fun hf => ?_) (fun hf => ?_)
        · exact Vx.lv [0, 1, 2] rfl (k_X11_statement_b36 C k hB (σ (k) 23) v1 s2 hf)
        · refine v_iconst (v := 0) 34 C dX11_statement_34 (by decide) ?_
          exact v_zretN 35 C rfl dX11_statement_35 (by decide) hf
theorem m_X11_statement {l : Launch} {E : En} {L : List Nat} (k : Nat) (hB : Bk L sh_AuntsPuzzleModel k) (σ : Sg) (o : Int32 × Sg) (hf : f_X11_statement k σ = some o) : Mi l yX11_statement cX11_statement 3 (some .boolean) (4) E L [.ref (E.2.1 (k))] σ o :=
  Mi.of RX11 rfl (by decide) (Nat.le_of_ble_eq_true rfl) (fun q hq C => by subst hq; exact k_X11_statement_b0 C k hB  σ hf)
def f_X11_comes (k : Nat) (x1 : Int32) (σ : Sg) : Rs := p_rd σ (k + 15) 32 x1 (fun v1 => p_rd σ (k + 16) 32 x1 (fun v2 => p_rd σ (k + 13) 32 x1 (fun v3 => if v3 = 99 then (p_call (f_X11_isCell k v1 σ) (fun v4 s5 => if v4 = 0 then (some (0, s5)) else (p_wr s5 (k + 4) 16 v1 v2 (fun s6 => some (1, s6))))) else (if v3 = 101 then (p_call (f_X11_isCell k v1 σ) (fun v7 s8 => if v7 = 0 then (some (0, s8)) else (p_call (f_X11_beside k v1 (v2 + 1) s8) (fun v9 s10 => if v9 < 0 then (some (0, s10)) else (p_rd s10 (k + 17) 32 x1 (fun v11 => if v11 = 0 then (some (0, s10)) else (if v2 = 0 then (p_rd s10 (k + 17) 32 x1 (fun v14 => p_wr s10 (k + 2) 16 v1 v14 (fun s15 => some (1, s15)))) else (p_rd s10 (k + 17) 32 x1 (fun v12 => p_wr s10 (k + 3) 16 v1 v12 (fun s13 => some (1, s13))))))))))) else (if v3 = 122 then (p_call (f_X11_isIn v1 2 4 σ) (fun v16 s17 => if v16 = 0 then (some (0, s17)) else (p_call (f_X11_isIn v2 2 4 s17) (fun v18 s19 => if v18 = 0 then (some (0, s19)) else (p_call (f_X11_anew k v1 v2 s19) (fun v20 s21 => some (1, s21))))))) else (if v2 = 0 then (some (0, σ)) else (if (σ (k) 13) = 6 then (some (0, σ)) else (p_wr σ (k + 9) 6 (σ (k) 13) v1 (fun s22 => p_wr s22 (k + 10) 6 (s22 (k) 13) v2 (fun s23 => p_wr s23 (k + 11) 6 (s23 (k) 13) 0 (fun s24 => p_put s24 (k) 13 ((s24 (k) 13) + 1) (fun s25 => some (1, s25)))))))))))))
set_option maxRecDepth 100000 in
set_option maxHeartbeats 4000000 in
theorem k_X11_comes_b0 {q : Mc} {E : En} {L : List Nat} {o : Int32 × Sg} (C : Cx q E L cX11_comes 4 RX11 (some .boolean) (3)) (k : Nat) (hB : Bk L sh_AuntsPuzzleModel k) (x1 : Int32) (σ : Sg) (hf : f_X11_comes k x1 σ = some o) : Vx q E L 4 (some .boolean) o 0 [(0, .ref (E.2.1 (k))), (1, .int x1)] [] σ := by
  unfold f_X11_comes at hf
  refine v_aload_n 0 C dX11_comes_0 rfl rfl ?_
  refine v_getR 1 C lk_X11_52 (hB 0 _ rfl) (by decide) rfl dX11_comes_1 ?_
  refine v_iload_n 4 C dX11_comes_4 rfl rfl ?_
  refine v_iald 5 C (hB 15 _ rfl) dX11_comes_5 hf (fun v1 hf => ?_)
  refine v_istore_n (lv' := [(0, .ref (E.2.1 (k))), (1, .int x1), (2, .int v1)]) 6 C dX11_comes_6 rfl (by decide) rfl rfl ?_
  refine v_aload_n 7 C dX11_comes_7 rfl rfl ?_
  refine v_getR 8 C lk_X11_55 (hB 0 _ rfl) (by decide) rfl dX11_comes_8 ?_
  refine v_iload_n 11 C dX11_comes_11 rfl rfl ?_
  refine v_iald 12 C (hB 16 _ rfl) dX11_comes_12 hf (fun v2 hf => ?_)
  refine v_istore_n (lv' := [(0, .ref (E.2.1 (k))), (1, .int x1), (2, .int v1), (3, .int v2)]) 13 C dX11_comes_13 rfl (by decide) rfl rfl ?_
  refine v_aload_n 14 C dX11_comes_14 rfl rfl ?_
  refine v_getR 15 C lk_X11_46 (hB 0 _ rfl) (by decide) rfl dX11_comes_15 ?_
  refine v_iload_n 18 C dX11_comes_18 rfl rfl ?_
  refine v_iald 19 C (hB 13 _ rfl) dX11_comes_19 hf (fun v3 hf => ?_)
  refine v_case (v := 99) hf (fun hx hf => ?_) (fun hn0 hf => ?_)
  · refine v_look (off := 127) (tgt := 147) 20 C dX11_comes_20 (by decide) (by rw [hx]; try rfl) (by decide) ?_
    refine v_aload_n 147 C dX11_comes_147 rfl rfl ?_
    refine v_iload_n 148 C dX11_comes_148 rfl rfl ?_
    refine v_callV (st := []) 149 C [.int v1] lm_X11_144 ly_X11_isCell (hB 0 _ rfl) (by decide) dX11_comes_149 rfl (by decide) rfl (Nat.le_of_ble_eq_true rfl) (fun o1 h1 => m_X11_isCell k hB v1 σ o1 h1) hf (fun v4 s5 hf => ?_)
    refine v_if_ne (tgt := 157) 152 C dX11_comes_152 (by decide) hf (fun hf => ?_) (fun hf => ?_)
    · refine v_aload_n 157 C dX11_comes_157 rfl rfl ?_
      refine v_getR 158 C lk_X11_19 (hB 0 _ rfl) (by decide) rfl dX11_comes_158 ?_
      refine v_iload_n 161 C dX11_comes_161 rfl rfl ?_
      refine v_iload_n 162 C dX11_comes_162 rfl rfl ?_
      refine v_iast 163 C (hB 4 _ rfl) dX11_comes_163 hf (fun s6 hf => ?_)
      refine v_iconst (v := 1) 164 C dX11_comes_164 (by decide) ?_
      exact v_zretN 165 C rfl dX11_comes_165 (by decide) hf
    · refine v_iconst (v := 0) 155 C dX11_comes_155 (by decide) ?_
      exact v_zretN 156 C rfl dX11_comes_156 (by decide) hf
  refine v_case (v := 101) hf (fun hx hf => ?_) (fun hn1 hf => ?_)
  · refine v_look (off := 64) (tgt := 84) 20 C dX11_comes_20 (by decide) (by rw [hx]; try rfl) (by decide) ?_
    refine v_aload_n 84 C dX11_comes_84 rfl rfl ?_
    refine v_iload_n 85 C dX11_comes_85 rfl rfl ?_
    refine v_callV (st := []) 86 C [.int v1] lm_X11_144 ly_X11_isCell (hB 0 _ rfl) (by decide) dX11_comes_86 rfl (by decide) rfl (Nat.le_of_ble_eq_true rfl) (fun o1 h1 => m_X11_isCell k hB v1 σ o1 h1) hf (fun v7 s8 hf => ?_)
    refine v_if_eq (tgt := 112) 89 C dX11_comes_89 (by decide) hf (fun hf => ?_) (fun hf => ?_)
    · refine v_iconst (v := 0) 112 C dX11_comes_112 (by decide) ?_
      exact v_zretN 113 C rfl dX11_comes_113 (by decide) hf
    · refine v_aload_n 92 C dX11_comes_92 rfl rfl ?_
      refine v_iload_n 93 C dX11_comes_93 rfl rfl ?_
      refine v_iload_n 94 C dX11_comes_94 rfl rfl ?_
      refine v_iconst (v := 1) 95 C dX11_comes_95 (by decide) ?_
      refine v_iadd 96 C dX11_comes_96 ?_
      refine v_callV (st := []) 97 C [.int v1, .int (v2 + 1)] lm_X11_98 ly_X11_beside (hB 0 _ rfl) (by decide) dX11_comes_97 rfl (by decide) rfl (Nat.le_of_ble_eq_true rfl) (fun o1 h1 => m_X11_beside k hB v1 (v2 + 1) s8 o1 h1) hf (fun v9 s10 hf => ?_)
      refine v_if_lt (tgt := 112) 100 C dX11_comes_100 (by decide) hf (fun hf => ?_) (fun hf => ?_)
      · refine v_iconst (v := 0) 112 C dX11_comes_112 (by decide) ?_
        exact v_zretN 113 C rfl dX11_comes_113 (by decide) hf
      · refine v_aload_n 103 C dX11_comes_103 rfl rfl ?_
        refine v_getR 104 C lk_X11_58 (hB 0 _ rfl) (by decide) rfl dX11_comes_104 ?_
        refine v_iload_n 107 C dX11_comes_107 rfl rfl ?_
        refine v_iald 108 C (hB 17 _ rfl) dX11_comes_108 hf (fun v11 hf => ?_)
        refine v_if_ne (tgt := 114) 109 C dX11_comes_109 (by decide) hf (fun hf => ?_) (fun hf => ?_)
        · refine v_iload_n 114 C dX11_comes_114 rfl rfl ?_
          refine v_if_ne (tgt := 133) 115 C dX11_comes_115 (by decide) hf (fun hf => ?_) (fun hf => ?_)
          · refine v_aload_n 133 C dX11_comes_133 rfl rfl ?_
            refine v_getR 134 C lk_X11_16 (hB 0 _ rfl) (by decide) rfl dX11_comes_134 ?_
            refine v_iload_n 137 C dX11_comes_137 rfl rfl ?_
            refine v_aload_n 138 C dX11_comes_138 rfl rfl ?_
            refine v_getR 139 C lk_X11_58 (hB 0 _ rfl) (by decide) rfl dX11_comes_139 ?_
            refine v_iload_n 142 C dX11_comes_142 rfl rfl ?_
            refine v_iald 143 C (hB 17 _ rfl) dX11_comes_143 hf (fun v12 hf => ?_)
            refine v_iast 144 C (hB 3 _ rfl) dX11_comes_144 hf (fun s13 hf => ?_)
            refine v_iconst (v := 1) 145 C dX11_comes_145 (by decide) ?_
            exact v_zretN 146 C rfl dX11_comes_146 (by decide) hf
          · refine v_aload_n 118 C dX11_comes_118 rfl rfl ?_
            refine v_getR 119 C lk_X11_13 (hB 0 _ rfl) (by decide) rfl dX11_comes_119 ?_
            refine v_iload_n 122 C dX11_comes_122 rfl rfl ?_
            refine v_aload_n 123 C dX11_comes_123 rfl rfl ?_
            refine v_getR 124 C lk_X11_58 (hB 0 _ rfl) (by decide) rfl dX11_comes_124 ?_
            refine v_iload_n 127 C dX11_comes_127 rfl rfl ?_
            refine v_iald 128 C (hB 17 _ rfl) dX11_comes_128 hf (fun v14 hf => ?_)
            refine v_iast 129 C (hB 2 _ rfl) dX11_comes_129 hf (fun s15 hf => ?_)
            refine v_goto (tgt := 145) 130 C dX11_comes_130 (by decide) ?_
            refine v_iconst (v := 1) 145 C dX11_comes_145 (by decide) ?_
            exact v_zretN 146 C rfl dX11_comes_146 (by decide) hf
        · refine v_iconst (v := 0) 112 C dX11_comes_112 (by decide) ?_
          exact v_zretN 113 C rfl dX11_comes_113 (by decide) hf
  refine v_case (v := 122) hf (fun hx hf => ?_) (fun hn2 hf => ?_)
  · refine v_look (off := 36) (tgt := 56) 20 C dX11_comes_20 (by decide) (by rw [hx]; try rfl) (by decide) ?_
    refine v_iload_n 56 C dX11_comes_56 rfl rfl ?_
    refine v_iconst (v := 2) 57 C dX11_comes_57 (by decide) ?_
    refine v_iconst (v := 4) 58 C dX11_comes_58 (by decide) ?_
    refine v_callS (st := []) 59 C [.int v1, .int 2, .int 4] lm_X11_124 lz_X11_isIn dX11_comes_59 rfl (by decide) rfl (Nat.le_of_ble_eq_true rfl) (fun o1 h1 => m_X11_isIn   v1 2 4 σ o1 h1) hf (fun v16 s17 hf => ?_)
    refine v_if_eq (tgt := 74) 62 C dX11_comes_62 (by decide) hf (fun hf => ?_) (fun hf => ?_)
    · refine v_iconst (v := 0) 74 C dX11_comes_74 (by decide) ?_
      exact v_zretN 75 C rfl dX11_comes_75 (by decide) hf
    · refine v_iload_n 65 C dX11_comes_65 rfl rfl ?_
      refine v_iconst (v := 2) 66 C dX11_comes_66 (by decide) ?_
      refine v_iconst (v := 4) 67 C dX11_comes_67 (by decide) ?_
      refine v_callS (st := []) 68 C [.int v2, .int 2, .int 4] lm_X11_124 lz_X11_isIn dX11_comes_68 rfl (by decide) rfl (Nat.le_of_ble_eq_true rfl) (fun o1 h1 => m_X11_isIn   v2 2 4 s17 o1 h1) hf (fun v18 s19 hf => ?_)
      refine v_if_ne (tgt := 76) 71 C dX11_comes_71 (by decide) hf (fun hf => ?_) (fun hf => ?_)
      · refine v_aload_n 76 C dX11_comes_76 rfl rfl ?_
        refine v_iload_n 77 C dX11_comes_77 rfl rfl ?_
        refine v_iload_n 78 C dX11_comes_78 rfl rfl ?_
        refine v_callV (st := []) 79 C [.int v1, .int v2] lm_X11_79 ly_X11_anew (hB 0 _ rfl) (by decide) dX11_comes_79 rfl (by decide) rfl (Nat.le_of_ble_eq_true rfl) (fun o1 h1 => m_X11_anew k hB v1 v2 s19 o1 h1) hf (fun v20 s21 hf => ?_)
        refine v_iconst (v := 1) 82 C dX11_comes_82 (by decide) ?_
        exact v_zretN 83 C rfl dX11_comes_83 (by decide) hf
      · refine v_iconst (v := 0) 74 C dX11_comes_74 (by decide) ?_
        exact v_zretN 75 C rfl dX11_comes_75 (by decide) hf
  refine v_look (off := 146) (tgt := 166) 20 C dX11_comes_20 (by decide) (by refine (lv_osw hn0 rfl).trans ?_; refine (lv_osw hn1 rfl).trans ?_; refine (lv_osw hn2 rfl).trans ?_; rfl) (by decide) ?_
  refine v_iload_n 166 C dX11_comes_166 rfl rfl ?_
  refine v_if_eq (tgt := 179) 167 C dX11_comes_167 (by decide) hf (fun hf => ?_) (fun hf => ?_)
  · refine v_iconst (v := 0) 179 C dX11_comes_179 (by decide) ?_
    exact v_zretN 180 C rfl dX11_comes_180 (by decide) hf
  · refine v_aload_n 170 C dX11_comes_170 rfl rfl ?_
    refine v_getI (dum := 0) 171 C lk_X11_95 (hB 0 _ rfl) (by decide) rfl dX11_comes_171 ?_
    refine v_bipush (v := 6) 174 C dX11_comes_174 (by decide) ?_
    refine v_icmp_ne (tgt := 181) 176 C dX11_comes_176 (by decide) hf (fun hf => ?_) (fun hf => ?_)
    · refine v_aload_n 181 C dX11_comes_181 rfl rfl ?_
      refine v_getR 182 C lk_X11_34 (hB 0 _ rfl) (by decide) rfl dX11_comes_182 ?_
      refine v_aload_n 185 C dX11_comes_185 rfl rfl ?_
      refine v_getI (dum := 0) 186 C lk_X11_95 (hB 0 _ rfl) (by decide) rfl dX11_comes_186 ?_
      refine v_iload_n 189 C dX11_comes_189 rfl rfl ?_
      refine v_iast 190 C (hB 9 _ rfl) dX11_comes_190 hf (fun s22 hf => ?_)
      refine v_aload_n 191 C dX11_comes_191 rfl rfl ?_
      refine v_getR 192 C lk_X11_37 (hB 0 _ rfl) (by decide) rfl dX11_comes_192 ?_
      refine v_aload_n 195 C dX11_comes_195 rfl rfl ?_
      refine v_getI (dum := 0) 196 C lk_X11_95 (hB 0 _ rfl) (by decide) rfl dX11_comes_196 ?_
      refine v_iload_n 199 C dX11_comes_199 rfl rfl ?_
      refine v_iast 200 C (hB 10 _ rfl) dX11_comes_200 hf (fun s23 hf => ?_)
      refine v_aload_n 201 C dX11_comes_201 rfl rfl ?_
      refine v_getR 202 C lk_X11_40 (hB 0 _ rfl) (by decide) rfl dX11_comes_202 ?_
      refine v_aload_n 205 C dX11_comes_205 rfl rfl ?_
      refine v_getI (dum := 0) 206 C lk_X11_95 (hB 0 _ rfl) (by decide) rfl dX11_comes_206 ?_
      refine v_iconst (v := 0) 209 C dX11_comes_209 (by decide) ?_
      refine v_iast 210 C (hB 11 _ rfl) dX11_comes_210 hf (fun s24 hf => ?_)
      refine v_aload_n 211 C dX11_comes_211 rfl rfl ?_
      refine v_dup 212 C dX11_comes_212 rfl ?_
      refine v_getI (dum := 0) 213 C lk_X11_95 (hB 0 _ rfl) (by decide) rfl dX11_comes_213 ?_
      refine v_iconst (v := 1) 216 C dX11_comes_216 (by decide) ?_
      refine v_iadd 217 C dX11_comes_217 ?_
      refine v_putI 218 C lp_X11_95 (hB 0 _ rfl) (by decide) rfl dX11_comes_218 hf (fun s25 hf => ?_)
      refine v_iconst (v := 1) 221 C dX11_comes_221 (by decide) ?_
      exact v_zretN 222 C rfl dX11_comes_222 (by decide) hf
    · refine v_iconst (v := 0) 179 C dX11_comes_179 (by decide) ?_
      exact v_zretN 180 C rfl dX11_comes_180 (by decide) hf
theorem m_X11_comes {l : Launch} {E : En} {L : List Nat} (k : Nat) (hB : Bk L sh_AuntsPuzzleModel k) (x1 : Int32) (σ : Sg) (o : Int32 × Sg) (hf : f_X11_comes k x1 σ = some o) : Mi l yX11_comes cX11_comes 4 (some .boolean) (3) E L [.ref (E.2.1 (k)), .int x1] σ o :=
  Mi.of RX11 rfl (by decide) (Nat.le_of_ble_eq_true rfl) (fun q hq C => by subst hq; exact k_X11_comes_b0 C k hB x1 σ hf)
def f_X11_passes_b42 (k a1 n1 : Nat) (r2 : Int32 → Sg → Rs) (x2 : Int32) (σ : Sg) : Rs := p_put σ (k) 27 ((σ (k) 27) + 1) (fun s1 => r2 (x2 + 1) s1)
set_option maxRecDepth 100000 in
set_option maxHeartbeats 4000000 in
theorem k_X11_passes_b42 {q : Mc} {E : En} {L : List Nat} {o : Int32 × Sg} (C : Cx q E L cX11_passes 3 RX11 none (1)) (k a1 n1 : Nat) (hB : Bk L sh_AuntsPuzzleModel k) (ha1 : Lc L a1 (12, n1)) (r2 : Int32 → Sg → Rs) (hr2 : ∀ (x2 : Int32) (σ : Sg), r2 x2 σ = some o → Vx q E L 3 none o 2 [(0, .ref (E.2.1 (k))), (1, .ref (E.2.1 (a1))), (2, .int x2)] [] σ) (x2 : Int32) (σ : Sg) (hf : f_X11_passes_b42 k a1 n1 r2 x2 σ = some o) : Vx q E L 3 none o 42 [(0, .ref (E.2.1 (k))), (1, .ref (E.2.1 (a1))), (2, .int x2)] [] σ := by
  unfold f_X11_passes_b42 at hf
  refine v_aload_n 42 C dX11_passes_42 rfl rfl ?_
  refine v_dup 43 C dX11_passes_43 rfl ?_
  refine v_getI (dum := 0) 44 C lk_X11_162 (hB 0 _ rfl) (by decide) rfl dX11_passes_44 ?_
  refine v_iconst (v := 1) 47 C dX11_passes_47 (by decide) ?_
  refine v_iadd 48 C dX11_passes_48 ?_
  refine v_putI 49 C lp_X11_162 (hB 0 _ rfl) (by decide) rfl dX11_passes_49 hf (fun s1 hf => ?_)
  refine v_iinc (v := x2 + 1) (lv' := [(0, .ref (E.2.1 (k))), (1, .ref (E.2.1 (a1))), (2, .int (x2 + 1))]) 52 C dX11_passes_52 rfl (by rfl) (by decide) rfl rfl ?_
  refine v_goto (tgt := 2) 55 C dX11_passes_55 (by decide) ?_
  exact Vx.lv [0, 1, 2] rfl (hr2 (x2 + 1) s1 hf)
def f_X11_passes_b2 (k a1 n1 : Nat)  : Nat → Int32 → Sg → Rs
  | 0, _, _ => none
  | n + 1, x2, σ => if (Int32.ofNat n1) ≤ x2 then (some (0, σ)) else (if (σ (k) 26) = 0 then (p_rd σ (k + 18) 500 (σ (k) 27) (fun v1 => p_wr σ (a1) n1 x2 v1 (fun s2 => f_X11_passes_b42 k a1 n1 (f_X11_passes_b2 k a1 n1 n) x2 s2))) else (p_rd σ (a1) n1 x2 (fun v3 => p_wr σ (k + 18) 500 (σ (k) 27) v3 (fun s4 => f_X11_passes_b42 k a1 n1 (f_X11_passes_b2 k a1 n1 n) x2 s4))))
set_option maxRecDepth 100000 in
set_option maxHeartbeats 4000000 in
theorem k_X11_passes_b2 {q : Mc} {E : En} {L : List Nat} {o : Int32 × Sg} (C : Cx q E L cX11_passes 3 RX11 none (1)) (k a1 n1 : Nat) (hB : Bk L sh_AuntsPuzzleModel k) (ha1 : Lc L a1 (12, n1)) (n : Nat) : ∀ (x2 : Int32) (σ : Sg), f_X11_passes_b2 k a1 n1 n x2 σ = some o → Vx q E L 3 none o 2 [(0, .ref (E.2.1 (k))), (1, .ref (E.2.1 (a1))), (2, .int x2)] [] σ := by
  induction n with
  | zero => intro x2 σ hf; cases (show (none : Rs) = some o from hf)
  | succ n ih =>
    intro x2 σ hf
    rw [f_X11_passes_b2] at hf
    refine v_iload_n 2 C dX11_passes_2 rfl rfl ?_
    refine v_aload_n 3 C dX11_passes_3 rfl rfl ?_
    refine v_alen (v := (Int32.ofNat n1)) 4 C ha1 (Or.inl rfl) rfl dX11_passes_4 ?_
    refine v_icmp_ge (tgt := 58) 5 C dX11_passes_5 (by decide) hf (fun hf => ?_) (fun hf => ?_)
    · exact v_ret (r := 0) 58 C rfl dX11_passes_58 hf
    · refine v_aload_n 8 C dX11_passes_8 rfl rfl ?_
      refine v_getI (dum := 0) 9 C lk_X11_158 (hB 0 _ rfl) (by decide) rfl dX11_passes_9 ?_
      refine v_if_eq (tgt := 30) 12 C dX11_passes_12 (by decide) hf (fun hf => ?_) (fun hf => ?_)
      · refine v_aload_n 30 C dX11_passes_30 rfl rfl ?_
        refine v_iload_n 31 C dX11_passes_31 rfl rfl ?_
        refine v_aload_n 32 C dX11_passes_32 rfl rfl ?_
        refine v_getR 33 C lk_X11_61 (hB 0 _ rfl) (by decide) rfl dX11_passes_33 ?_
        refine v_aload_n 36 C dX11_passes_36 rfl rfl ?_
        refine v_getI (dum := 0) 37 C lk_X11_162 (hB 0 _ rfl) (by decide) rfl dX11_passes_37 ?_
        refine v_iald 40 C (hB 18 _ rfl) dX11_passes_40 hf (fun v1 hf => ?_)
        refine v_iast 41 C ha1 dX11_passes_41 hf (fun s2 hf => ?_)
        exact Vx.lv [0, 1, 2] rfl (k_X11_passes_b42 C k a1 n1 hB ha1 (f_X11_passes_b2 k a1 n1 n) ih x2 s2 hf)
      · refine v_aload_n 15 C dX11_passes_15 rfl rfl ?_
        refine v_getR 16 C lk_X11_61 (hB 0 _ rfl) (by decide) rfl dX11_passes_16 ?_
        refine v_aload_n 19 C dX11_passes_19 rfl rfl ?_
        refine v_getI (dum := 0) 20 C lk_X11_162 (hB 0 _ rfl) (by decide) rfl dX11_passes_20 ?_
        refine v_aload_n 23 C dX11_passes_23 rfl rfl ?_
        refine v_iload_n 24 C dX11_passes_24 rfl rfl ?_
        refine v_iald 25 C ha1 dX11_passes_25 hf (fun v3 hf => ?_)
        refine v_iast 26 C (hB 18 _ rfl) dX11_passes_26 hf (fun s4 hf => ?_)
        refine v_goto (tgt := 42) 27 C dX11_passes_27 (by decide) ?_
        exact Vx.lv [0, 1, 2] rfl (k_X11_passes_b42 C k a1 n1 hB ha1 (f_X11_passes_b2 k a1 n1 n) ih x2 s4 hf)
def f_X11_passes (k a1 n1 : Nat) (σ : Sg) : Rs := f_X11_passes_b2 k a1 n1 fu 0 σ
set_option maxRecDepth 100000 in
set_option maxHeartbeats 4000000 in
theorem k_X11_passes_b0 {q : Mc} {E : En} {L : List Nat} {o : Int32 × Sg} (C : Cx q E L cX11_passes 3 RX11 none (1)) (k a1 n1 : Nat) (hB : Bk L sh_AuntsPuzzleModel k) (ha1 : Lc L a1 (12, n1)) (σ : Sg) (hf : f_X11_passes k a1 n1 σ = some o) : Vx q E L 3 none o 0 [(0, .ref (E.2.1 (k))), (1, .ref (E.2.1 (a1)))] [] σ := by
  unfold f_X11_passes at hf
  refine v_iconst (v := 0) 0 C dX11_passes_0 (by decide) ?_
  refine v_istore_n (lv' := [(0, .ref (E.2.1 (k))), (1, .ref (E.2.1 (a1))), (2, .int 0)]) 1 C dX11_passes_1 rfl (by decide) rfl rfl ?_
  exact Vx.lv [0, 1, 2] rfl (k_X11_passes_b2 C k a1 n1 hB ha1 fu 0 σ hf)
theorem m_X11_passes {l : Launch} {E : En} {L : List Nat} (k a1 n1 : Nat) (hB : Bk L sh_AuntsPuzzleModel k) (ha1 : Lc L a1 (12, n1)) (σ : Sg) (o : Int32 × Sg) (hf : f_X11_passes k a1 n1 σ = some o) : Mi l yX11_passes cX11_passes 3 none (1) E L [.ref (E.2.1 (k)), .ref (E.2.1 (a1))] σ o :=
  Mi.of RX11 rfl (by decide) (Nat.le_of_ble_eq_true rfl) (fun q hq C => by subst hq; exact k_X11_passes_b0 C k a1 n1 hB ha1  σ hf)
def f_X11_passOne_b38 (k : Nat) (x2 : Int32) (σ : Sg) : Rs := p_put σ (k) 27 ((σ (k) 27) + 1) (fun s1 => some (x2, s1))
set_option maxRecDepth 100000 in
set_option maxHeartbeats 4000000 in
theorem k_X11_passOne_b38 {q : Mc} {E : En} {L : List Nat} {o : Int32 × Sg} (C : Cx q E L cX11_passOne 3 RX11 (some .int) (1)) (k : Nat) (hB : Bk L sh_AuntsPuzzleModel k) (x2 : Int32) (σ : Sg) (hf : f_X11_passOne_b38 k x2 σ = some o) : Vx q E L 3 (some .int) o 38 [(0, .ref (E.2.1 (k))), (2, .int x2)] [] σ := by
  unfold f_X11_passOne_b38 at hf
  refine v_aload_n 38 C dX11_passOne_38 rfl rfl ?_
  refine v_dup 39 C dX11_passOne_39 rfl ?_
  refine v_getI (dum := 0) 40 C lk_X11_162 (hB 0 _ rfl) (by decide) rfl dX11_passOne_40 ?_
  refine v_iconst (v := 1) 43 C dX11_passOne_43 (by decide) ?_
  refine v_iadd 44 C dX11_passOne_44 ?_
  refine v_putI 45 C lp_X11_162 (hB 0 _ rfl) (by decide) rfl dX11_passOne_45 hf (fun s1 hf => ?_)
  refine v_iload_n 48 C dX11_passOne_48 rfl rfl ?_
  exact v_iret 49 C rfl dX11_passOne_49 hf
def f_X11_passOne_b20 (k : Nat) (x1 : Int32) (t0 : Int32) (σ : Sg) : Rs := if (σ (k) 26) = 0 then (f_X11_passOne_b38 k t0 σ) else (p_wr σ (k + 18) 500 (σ (k) 27) x1 (fun s1 => f_X11_passOne_b38 k t0 s1))
set_option maxRecDepth 100000 in
set_option maxHeartbeats 4000000 in
theorem k_X11_passOne_b20 {q : Mc} {E : En} {L : List Nat} {o : Int32 × Sg} (C : Cx q E L cX11_passOne 3 RX11 (some .int) (1)) (k : Nat) (hB : Bk L sh_AuntsPuzzleModel k) (x1 : Int32) (t0 : Int32) (σ : Sg) (hf : f_X11_passOne_b20 k x1 t0 σ = some o) : Vx q E L 3 (some .int) o 20 [(0, .ref (E.2.1 (k))), (1, .int x1)] [.int t0] σ := by
  unfold f_X11_passOne_b20 at hf
  refine v_istore_n (lv' := [(0, .ref (E.2.1 (k))), (1, .int x1), (2, .int t0)]) 20 C dX11_passOne_20 rfl (by decide) rfl rfl ?_
  refine v_aload_n 21 C dX11_passOne_21 rfl rfl ?_
  refine v_getI (dum := 0) 22 C lk_X11_158 (hB 0 _ rfl) (by decide) rfl dX11_passOne_22 ?_
  refine v_if_eq (tgt := 38) 25 C dX11_passOne_25 (by decide) hf (fun hf => ?_) (fun hf => ?_)
  · exact Vx.lv [0, 2] rfl (k_X11_passOne_b38 C k hB t0 σ hf)
  · refine v_aload_n 28 C dX11_passOne_28 rfl rfl ?_
    refine v_getR 29 C lk_X11_61 (hB 0 _ rfl) (by decide) rfl dX11_passOne_29 ?_
    refine v_aload_n 32 C dX11_passOne_32 rfl rfl ?_
    refine v_getI (dum := 0) 33 C lk_X11_162 (hB 0 _ rfl) (by decide) rfl dX11_passOne_33 ?_
    refine v_iload_n 36 C dX11_passOne_36 rfl rfl ?_
    refine v_iast 37 C (hB 18 _ rfl) dX11_passOne_37 hf (fun s1 hf => ?_)
    exact Vx.lv [0, 2] rfl (k_X11_passOne_b38 C k hB t0 s1 hf)
def f_X11_passOne (k : Nat) (x1 : Int32) (σ : Sg) : Rs := if (σ (k) 26) = 0 then (p_rd σ (k + 18) 500 (σ (k) 27) (fun v1 => f_X11_passOne_b20 k x1 v1 σ)) else (f_X11_passOne_b20 k x1 x1 σ)
set_option maxRecDepth 100000 in
set_option maxHeartbeats 4000000 in
theorem k_X11_passOne_b0 {q : Mc} {E : En} {L : List Nat} {o : Int32 × Sg} (C : Cx q E L cX11_passOne 3 RX11 (some .int) (1)) (k : Nat) (hB : Bk L sh_AuntsPuzzleModel k) (x1 : Int32) (σ : Sg) (hf : f_X11_passOne k x1 σ = some o) : Vx q E L 3 (some .int) o 0 [(0, .ref (E.2.1 (k))), (1, .int x1)] [] σ := by
  unfold f_X11_passOne at hf
  refine v_aload_n 0 C dX11_passOne_0 rfl rfl ?_
  refine v_getI (dum := 0) 1 C lk_X11_158 (hB 0 _ rfl) (by decide) rfl dX11_passOne_1 ?_
  refine v_if_eq (tgt := 11) 4 C dX11_passOne_4 (by decide) hf (fun hf => ?_) (fun hf => ?_)
  · refine v_aload_n 11 C dX11_passOne_11 rfl rfl ?_
    refine v_getR 12 C lk_X11_61 (hB 0 _ rfl) (by decide) rfl dX11_passOne_12 ?_
    refine v_aload_n 15 C dX11_passOne_15 rfl rfl ?_
    refine v_getI (dum := 0) 16 C lk_X11_162 (hB 0 _ rfl) (by decide) rfl dX11_passOne_16 ?_
    refine v_iald 19 C (hB 18 _ rfl) dX11_passOne_19 hf (fun v1 hf => ?_)
    exact Vx.lv [0, 1] rfl (k_X11_passOne_b20 C k hB x1 v1 σ hf)
  · refine v_iload_n 7 C dX11_passOne_7 rfl rfl ?_
    refine v_goto (tgt := 20) 8 C dX11_passOne_8 (by decide) ?_
    exact Vx.lv [0, 1] rfl (k_X11_passOne_b20 C k hB x1 x1 σ hf)
theorem m_X11_passOne {l : Launch} {E : En} {L : List Nat} (k : Nat) (hB : Bk L sh_AuntsPuzzleModel k) (x1 : Int32) (σ : Sg) (o : Int32 × Sg) (hf : f_X11_passOne k x1 σ = some o) : Mi l yX11_passOne cX11_passOne 3 (some .int) (1) E L [.ref (E.2.1 (k)), .int x1] σ o :=
  Mi.of RX11 rfl (by decide) (Nat.le_of_ble_eq_true rfl) (fun q hq C => by subst hq; exact k_X11_passOne_b0 C k hB x1 σ hf)
def f_X11_passesAll (k : Nat) (x1 : Int32) (x2 : Int32) (σ : Sg) : Rs := p_put σ (k) 27 (200 * x1) (fun s1 => p_bo x2 (p_put s1 (k) 26 x2 (fun s2 => p_call (f_X11_passes k (k + 2) 16 s2) (fun v3 s4 => p_call (f_X11_passes k (k + 3) 16 s4) (fun v5 s6 => p_call (f_X11_passes k (k + 4) 16 s6) (fun v7 s8 => p_call (f_X11_passes k (k + 5) 16 s8) (fun v9 s10 => p_call (f_X11_passes k (k + 6) 16 s10) (fun v11 s12 => p_call (f_X11_passes k (k + 7) 16 s12) (fun v13 s14 => p_call (f_X11_passes k (k + 8) 16 s14) (fun v15 s16 => p_call (f_X11_passes k (k + 9) 6 s16) (fun v17 s18 => p_call (f_X11_passes k (k + 10) 6 s18) (fun v19 s20 => p_call (f_X11_passes k (k + 11) 6 s20) (fun v21 s22 => p_call (f_X11_passOne k (s22 (k) 11) s22) (fun v23 s24 => p_put s24 (k) 11 v23 (fun s25 => p_call (f_X11_passOne k (s25 (k) 12) s25) (fun v26 s27 => p_put s27 (k) 12 v26 (fun s28 => p_call (f_X11_passOne k (s28 (k) 13) s28) (fun v29 s30 => p_put s30 (k) 13 v29 (fun s31 => p_call (f_X11_passOne k (s31 (k) 14) s31) (fun v32 s33 => p_put s33 (k) 14 v32 (fun s34 => some (0, s34))))))))))))))))))))))
set_option maxRecDepth 100000 in
set_option maxHeartbeats 4000000 in
theorem k_X11_passesAll_b0 {q : Mc} {E : En} {L : List Nat} {o : Int32 × Sg} (C : Cx q E L cX11_passesAll 3 RX11 none (2)) (k : Nat) (hB : Bk L sh_AuntsPuzzleModel k) (x1 : Int32) (x2 : Int32) (σ : Sg) (hf : f_X11_passesAll k x1 x2 σ = some o) : Vx q E L 3 none o 0 [(0, .ref (E.2.1 (k))), (1, .int x1), (2, .int x2)] [] σ := by
  unfold f_X11_passesAll at hf
  refine v_aload_n 0 C dX11_passesAll_0 rfl rfl ?_
  refine v_sipush (v := 200) 1 C dX11_passesAll_1 (by decide) ?_
  refine v_iload_n 4 C dX11_passesAll_4 rfl rfl ?_
  refine v_imul 5 C dX11_passesAll_5 ?_
  refine v_putI 6 C lp_X11_162 (hB 0 _ rfl) (by decide) rfl dX11_passesAll_6 hf (fun s1 hf => ?_)
  refine v_aload_n 9 C dX11_passesAll_9 rfl rfl ?_
  refine v_iload_n 10 C dX11_passesAll_10 rfl rfl ?_
  refine v_putZ 11 C lp_X11_158 (hB 0 _ rfl) (by decide) rfl dX11_passesAll_11 hf (fun s2 hf => ?_)
  refine v_aload_n 14 C dX11_passesAll_14 rfl rfl ?_
  refine v_aload_n 15 C dX11_passesAll_15 rfl rfl ?_
  refine v_getR 16 C lk_X11_13 (hB 0 _ rfl) (by decide) rfl dX11_passesAll_16 ?_
  refine v_callV (st := []) 19 C [.ref (E.2.1 (k + 2))] lm_X11_165 ly_X11_passes (hB 0 _ rfl) (by decide) dX11_passesAll_19 rfl (by decide) rfl (Nat.le_of_ble_eq_true rfl) (fun o1 h1 => m_X11_passes k (k + 2) 16 hB (hB 2 _ rfl)  s2 o1 h1) hf (fun v3 s4 hf => ?_)
  refine v_aload_n 22 C dX11_passesAll_22 rfl rfl ?_
  refine v_aload_n 23 C dX11_passesAll_23 rfl rfl ?_
  refine v_getR 24 C lk_X11_16 (hB 0 _ rfl) (by decide) rfl dX11_passesAll_24 ?_
  refine v_callV (st := []) 27 C [.ref (E.2.1 (k + 3))] lm_X11_165 ly_X11_passes (hB 0 _ rfl) (by decide) dX11_passesAll_27 rfl (by decide) rfl (Nat.le_of_ble_eq_true rfl) (fun o1 h1 => m_X11_passes k (k + 3) 16 hB (hB 3 _ rfl)  s4 o1 h1) hf (fun v5 s6 hf => ?_)
  refine v_aload_n 30 C dX11_passesAll_30 rfl rfl ?_
  refine v_aload_n 31 C dX11_passesAll_31 rfl rfl ?_
  refine v_getR 32 C lk_X11_19 (hB 0 _ rfl) (by decide) rfl dX11_passesAll_32 ?_
  refine v_callV (st := []) 35 C [.ref (E.2.1 (k + 4))] lm_X11_165 ly_X11_passes (hB 0 _ rfl) (by decide) dX11_passesAll_35 rfl (by decide) rfl (Nat.le_of_ble_eq_true rfl) (fun o1 h1 => m_X11_passes k (k + 4) 16 hB (hB 4 _ rfl)  s6 o1 h1) hf (fun v7 s8 hf => ?_)
  refine v_aload_n 38 C dX11_passesAll_38 rfl rfl ?_
  refine v_aload_n 39 C dX11_passesAll_39 rfl rfl ?_
  refine v_getR 40 C lk_X11_22 (hB 0 _ rfl) (by decide) rfl dX11_passesAll_40 ?_
  refine v_callV (st := []) 43 C [.ref (E.2.1 (k + 5))] lm_X11_165 ly_X11_passes (hB 0 _ rfl) (by decide) dX11_passesAll_43 rfl (by decide) rfl (Nat.le_of_ble_eq_true rfl) (fun o1 h1 => m_X11_passes k (k + 5) 16 hB (hB 5 _ rfl)  s8 o1 h1) hf (fun v9 s10 hf => ?_)
  refine v_aload_n 46 C dX11_passesAll_46 rfl rfl ?_
  refine v_aload_n 47 C dX11_passesAll_47 rfl rfl ?_
  refine v_getR 48 C lk_X11_25 (hB 0 _ rfl) (by decide) rfl dX11_passesAll_48 ?_
  refine v_callV (st := []) 51 C [.ref (E.2.1 (k + 6))] lm_X11_165 ly_X11_passes (hB 0 _ rfl) (by decide) dX11_passesAll_51 rfl (by decide) rfl (Nat.le_of_ble_eq_true rfl) (fun o1 h1 => m_X11_passes k (k + 6) 16 hB (hB 6 _ rfl)  s10 o1 h1) hf (fun v11 s12 hf => ?_)
  refine v_aload_n 54 C dX11_passesAll_54 rfl rfl ?_
  refine v_aload_n 55 C dX11_passesAll_55 rfl rfl ?_
  refine v_getR 56 C lk_X11_28 (hB 0 _ rfl) (by decide) rfl dX11_passesAll_56 ?_
  refine v_callV (st := []) 59 C [.ref (E.2.1 (k + 7))] lm_X11_165 ly_X11_passes (hB 0 _ rfl) (by decide) dX11_passesAll_59 rfl (by decide) rfl (Nat.le_of_ble_eq_true rfl) (fun o1 h1 => m_X11_passes k (k + 7) 16 hB (hB 7 _ rfl)  s12 o1 h1) hf (fun v13 s14 hf => ?_)
  refine v_aload_n 62 C dX11_passesAll_62 rfl rfl ?_
  refine v_aload_n 63 C dX11_passesAll_63 rfl rfl ?_
  refine v_getR 64 C lk_X11_31 (hB 0 _ rfl) (by decide) rfl dX11_passesAll_64 ?_
  refine v_callV (st := []) 67 C [.ref (E.2.1 (k + 8))] lm_X11_165 ly_X11_passes (hB 0 _ rfl) (by decide) dX11_passesAll_67 rfl (by decide) rfl (Nat.le_of_ble_eq_true rfl) (fun o1 h1 => m_X11_passes k (k + 8) 16 hB (hB 8 _ rfl)  s14 o1 h1) hf (fun v15 s16 hf => ?_)
  refine v_aload_n 70 C dX11_passesAll_70 rfl rfl ?_
  refine v_aload_n 71 C dX11_passesAll_71 rfl rfl ?_
  refine v_getR 72 C lk_X11_34 (hB 0 _ rfl) (by decide) rfl dX11_passesAll_72 ?_
  refine v_callV (st := []) 75 C [.ref (E.2.1 (k + 9))] lm_X11_165 ly_X11_passes (hB 0 _ rfl) (by decide) dX11_passesAll_75 rfl (by decide) rfl (Nat.le_of_ble_eq_true rfl) (fun o1 h1 => m_X11_passes k (k + 9) 6 hB (hB 9 _ rfl)  s16 o1 h1) hf (fun v17 s18 hf => ?_)
  refine v_aload_n 78 C dX11_passesAll_78 rfl rfl ?_
  refine v_aload_n 79 C dX11_passesAll_79 rfl rfl ?_
  refine v_getR 80 C lk_X11_37 (hB 0 _ rfl) (by decide) rfl dX11_passesAll_80 ?_
  refine v_callV (st := []) 83 C [.ref (E.2.1 (k + 10))] lm_X11_165 ly_X11_passes (hB 0 _ rfl) (by decide) dX11_passesAll_83 rfl (by decide) rfl (Nat.le_of_ble_eq_true rfl) (fun o1 h1 => m_X11_passes k (k + 10) 6 hB (hB 10 _ rfl)  s18 o1 h1) hf (fun v19 s20 hf => ?_)
  refine v_aload_n 86 C dX11_passesAll_86 rfl rfl ?_
  refine v_aload_n 87 C dX11_passesAll_87 rfl rfl ?_
  refine v_getR 88 C lk_X11_40 (hB 0 _ rfl) (by decide) rfl dX11_passesAll_88 ?_
  refine v_callV (st := []) 91 C [.ref (E.2.1 (k + 11))] lm_X11_165 ly_X11_passes (hB 0 _ rfl) (by decide) dX11_passesAll_91 rfl (by decide) rfl (Nat.le_of_ble_eq_true rfl) (fun o1 h1 => m_X11_passes k (k + 11) 6 hB (hB 11 _ rfl)  s20 o1 h1) hf (fun v21 s22 hf => ?_)
  refine v_aload_n 94 C dX11_passesAll_94 rfl rfl ?_
  refine v_aload_n 95 C dX11_passesAll_95 rfl rfl ?_
  refine v_aload_n 96 C dX11_passesAll_96 rfl rfl ?_
  refine v_getI (dum := 0) 97 C lk_X11_84 (hB 0 _ rfl) (by decide) rfl dX11_passesAll_97 ?_
  refine v_callV (st := [.ref (E.2.1 (k))]) 100 C [.int (s22 (k) 11)] lm_X11_169 ly_X11_passOne (hB 0 _ rfl) (by decide) dX11_passesAll_100 rfl (by decide) rfl (Nat.le_of_ble_eq_true rfl) (fun o1 h1 => m_X11_passOne k hB (s22 (k) 11) s22 o1 h1) hf (fun v23 s24 hf => ?_)
  refine v_putI 103 C lp_X11_84 (hB 0 _ rfl) (by decide) rfl dX11_passesAll_103 hf (fun s25 hf => ?_)
  refine v_aload_n 106 C dX11_passesAll_106 rfl rfl ?_
  refine v_aload_n 107 C dX11_passesAll_107 rfl rfl ?_
  refine v_aload_n 108 C dX11_passesAll_108 rfl rfl ?_
  refine v_getI (dum := 0) 109 C lk_X11_88 (hB 0 _ rfl) (by decide) rfl dX11_passesAll_109 ?_
  refine v_callV (st := [.ref (E.2.1 (k))]) 112 C [.int (s25 (k) 12)] lm_X11_169 ly_X11_passOne (hB 0 _ rfl) (by decide) dX11_passesAll_112 rfl (by decide) rfl (Nat.le_of_ble_eq_true rfl) (fun o1 h1 => m_X11_passOne k hB (s25 (k) 12) s25 o1 h1) hf (fun v26 s27 hf => ?_)
  refine v_putI 115 C lp_X11_88 (hB 0 _ rfl) (by decide) rfl dX11_passesAll_115 hf (fun s28 hf => ?_)
  refine v_aload_n 118 C dX11_passesAll_118 rfl rfl ?_
  refine v_aload_n 119 C dX11_passesAll_119 rfl rfl ?_
  refine v_aload_n 120 C dX11_passesAll_120 rfl rfl ?_
  refine v_getI (dum := 0) 121 C lk_X11_95 (hB 0 _ rfl) (by decide) rfl dX11_passesAll_121 ?_
  refine v_callV (st := [.ref (E.2.1 (k))]) 124 C [.int (s28 (k) 13)] lm_X11_169 ly_X11_passOne (hB 0 _ rfl) (by decide) dX11_passesAll_124 rfl (by decide) rfl (Nat.le_of_ble_eq_true rfl) (fun o1 h1 => m_X11_passOne k hB (s28 (k) 13) s28 o1 h1) hf (fun v29 s30 hf => ?_)
  refine v_putI 127 C lp_X11_95 (hB 0 _ rfl) (by decide) rfl dX11_passesAll_127 hf (fun s31 hf => ?_)
  refine v_aload_n 130 C dX11_passesAll_130 rfl rfl ?_
  refine v_aload_n 131 C dX11_passesAll_131 rfl rfl ?_
  refine v_aload_n 132 C dX11_passesAll_132 rfl rfl ?_
  refine v_getI (dum := 0) 133 C lk_X11_172 (hB 0 _ rfl) (by decide) rfl dX11_passesAll_133 ?_
  refine v_callV (st := [.ref (E.2.1 (k))]) 136 C [.int (s31 (k) 14)] lm_X11_169 ly_X11_passOne (hB 0 _ rfl) (by decide) dX11_passesAll_136 rfl (by decide) rfl (Nat.le_of_ble_eq_true rfl) (fun o1 h1 => m_X11_passOne k hB (s31 (k) 14) s31 o1 h1) hf (fun v32 s33 hf => ?_)
  refine v_putI 139 C lp_X11_172 (hB 0 _ rfl) (by decide) rfl dX11_passesAll_139 hf (fun s34 hf => ?_)
  exact v_ret (r := 0) 142 C rfl dX11_passesAll_142 hf
theorem m_X11_passesAll {l : Launch} {E : En} {L : List Nat} (k : Nat) (hB : Bk L sh_AuntsPuzzleModel k) (x1 : Int32) (x2 : Int32) (σ : Sg) (o : Int32 × Sg) (hf : f_X11_passesAll k x1 x2 σ = some o) : Mi l yX11_passesAll cX11_passesAll 3 none (2) E L [.ref (E.2.1 (k)), .int x1, .int x2] σ o :=
  Mi.of RX11 rfl (by decide) (Nat.le_of_ble_eq_true rfl) (fun q hq C => by subst hq; exact k_X11_passesAll_b0 C k hB x1 x2 σ hf)
def f_X11_puzzle_b86 (k : Nat)  : Nat → Int32 → Sg → Rs
  | 0, _, _ => none
  | n + 1, x2, σ => if (σ (k) 23) ≤ x2 then (some (σ (k) 23, σ)) else (p_call (f_X11_comes k x2 σ) (fun v1 s2 => if v1 = 0 then (p_call (f_X11_passesAll k 1 0 s2) (fun v3 s4 => p_rd s4 (k + 14) 32 x2 (fun v5 => some ((-2000) - v5, s4)))) else (f_X11_puzzle_b86 k n (x2 + 1) s2)))
set_option maxRecDepth 100000 in
set_option maxHeartbeats 4000000 in
theorem k_X11_puzzle_b86 {q : Mc} {E : En} {L : List Nat} {o : Int32 × Sg} (C : Cx q E L cX11_puzzle 3 RX11 (some .int) (5)) (k : Nat) (hB : Bk L sh_AuntsPuzzleModel k) (n : Nat) : ∀ (x2 : Int32) (σ : Sg), f_X11_puzzle_b86 k n x2 σ = some o → Vx q E L 3 (some .int) o 86 [(0, .ref (E.2.1 (k))), (2, .int x2)] [] σ := by
  induction n with
  | zero => intro x2 σ hf; cases (show (none : Rs) = some o from hf)
  | succ n ih =>
    intro x2 σ hf
    rw [f_X11_puzzle_b86] at hf
    refine v_iload_n 86 C dX11_puzzle_86 rfl rfl ?_
    refine v_aload_n 87 C dX11_puzzle_87 rfl rfl ?_
    refine v_getI (dum := 0) 88 C lk_X11_135 (hB 0 _ rfl) (by decide) rfl dX11_puzzle_88 ?_
    refine v_icmp_ge (tgt := 128) 91 C dX11_puzzle_91 (by decide) hf (fun hf => ?_) (fun hf => ?_)
    · refine v_aload_n 128 C dX11_puzzle_128 rfl rfl ?_
      refine v_getI (dum := 0) 129 C lk_X11_135 (hB 0 _ rfl) (by decide) rfl dX11_puzzle_129 ?_
      exact v_iret 132 C rfl dX11_puzzle_132 hf
    · refine v_aload_n 94 C dX11_puzzle_94 rfl rfl ?_
      refine v_iload_n 95 C dX11_puzzle_95 rfl rfl ?_
      refine v_callV (st := []) 96 C [.int x2] lm_X11_155 ly_X11_comes (hB 0 _ rfl) (by decide) dX11_puzzle_96 rfl (by decide) rfl (Nat.le_of_ble_eq_true rfl) (fun o1 h1 => m_X11_comes k hB x2 σ o1 h1) hf (fun v1 s2 hf => ?_)
      refine v_if_eq (tgt := 105) 99 C dX11_puzzle_99 (by decide) hf (fun hf => ?_) (fun hf => ?_)
      · refine v_aload_n 105 C dX11_puzzle_105 rfl rfl ?_
        refine v_iconst (v := 1) 106 C dX11_puzzle_106 (by decide) ?_
        refine v_iconst (v := 0) 107 C dX11_puzzle_107 (by decide) ?_
        refine v_callV (st := []) 108 C [.int 1, .int 0] lm_X11_151 ly_X11_passesAll (hB 0 _ rfl) (by decide) dX11_puzzle_108 rfl (by decide) rfl (Nat.le_of_ble_eq_true rfl) (fun o1 h1 => m_X11_passesAll k hB 1 0 s2 o1 h1) hf (fun v3 s4 hf => ?_)
        refine v_sipush (v := (-2000)) 111 C dX11_puzzle_111 (by decide) ?_
        refine v_aload_n 114 C dX11_puzzle_114 rfl rfl ?_
        refine v_getR 115 C lk_X11_49 (hB 0 _ rfl) (by decide) rfl dX11_puzzle_115 ?_
        refine v_iload_n 118 C dX11_puzzle_118 rfl rfl ?_
        refine v_iald 119 C (hB 14 _ rfl) dX11_puzzle_119 hf (fun v5 hf => ?_)
        refine v_isub 120 C dX11_puzzle_120 ?_
        exact v_iret 121 C rfl dX11_puzzle_121 hf
      · refine v_goto (tgt := 122) 102 C dX11_puzzle_102 (by decide) ?_
        refine v_iinc (v := x2 + 1) (lv' := [(0, .ref (E.2.1 (k))), (2, .int (x2 + 1))]) 122 C dX11_puzzle_122 rfl (by rfl) (by decide) rfl rfl ?_
        refine v_goto (tgt := 86) 125 C dX11_puzzle_125 (by decide) ?_
        exact Vx.lv [0, 1] rfl (ih (x2 + 1) s2 hf)
def f_X11_puzzle_b60 (k : Nat) (x1 : Int32) (σ : Sg) : Rs := p_put σ (k) 21 0 (fun s1 => if x1 = 0 then (some ((-1000) - (s1 (k) 22), s1)) else (p_call (f_X11_passesAll k 1 1 s1) (fun v2 s3 => f_X11_puzzle_b86 k fu 0 s3)))
set_option maxRecDepth 100000 in
set_option maxHeartbeats 4000000 in
theorem k_X11_puzzle_b60 {q : Mc} {E : En} {L : List Nat} {o : Int32 × Sg} (C : Cx q E L cX11_puzzle 3 RX11 (some .int) (5)) (k : Nat) (hB : Bk L sh_AuntsPuzzleModel k) (x1 : Int32) (σ : Sg) (hf : f_X11_puzzle_b60 k x1 σ = some o) : Vx q E L 3 (some .int) o 60 [(0, .ref (E.2.1 (k))), (1, .int x1)] [] σ := by
  unfold f_X11_puzzle_b60 at hf
  refine v_aload_n 60 C dX11_puzzle_60 rfl rfl ?_
  refine v_iconst (v := 0) 61 C dX11_puzzle_61 (by decide) ?_
  refine v_putI 62 C lp_X11_109 (hB 0 _ rfl) (by decide) rfl dX11_puzzle_62 hf (fun s1 hf => ?_)
  refine v_iload_n 65 C dX11_puzzle_65 rfl rfl ?_
  refine v_if_ne (tgt := 78) 66 C dX11_puzzle_66 (by decide) hf (fun hf => ?_) (fun hf => ?_)
  · refine v_aload_n 78 C dX11_puzzle_78 rfl rfl ?_
    refine v_iconst (v := 1) 79 C dX11_puzzle_79 (by decide) ?_
    refine v_iconst (v := 1) 80 C dX11_puzzle_80 (by decide) ?_
    refine v_callV (st := []) 81 C [.int 1, .int 1] lm_X11_151 ly_X11_passesAll (hB 0 _ rfl) (by decide) dX11_puzzle_81 rfl (by decide) rfl (Nat.le_of_ble_eq_true rfl) (fun o1 h1 => m_X11_passesAll k hB 1 1 s1 o1 h1) hf (fun v2 s3 hf => ?_)
    refine v_iconst (v := 0) 84 C dX11_puzzle_84 (by decide) ?_
    refine v_istore_n (lv' := [(0, .ref (E.2.1 (k))), (1, .int x1), (2, .int 0)]) 85 C dX11_puzzle_85 rfl (by decide) rfl rfl ?_
    exact Vx.lv [0, 2] rfl (k_X11_puzzle_b86 C k hB fu 0 s3 hf)
  · refine v_sipush (v := (-1000)) 69 C dX11_puzzle_69 (by decide) ?_
    refine v_aload_n 72 C dX11_puzzle_72 rfl rfl ?_
    refine v_getI (dum := 0) 73 C lk_X11_118 (hB 0 _ rfl) (by decide) rfl dX11_puzzle_73 ?_
    refine v_isub 76 C dX11_puzzle_76 ?_
    exact v_iret 77 C rfl dX11_puzzle_77 hf
def f_X11_puzzle_b53 (k : Nat) (r12 : Int32 → Sg → Rs) (x1 : Int32) (t1 : Int32) (t2 : Int32) (σ : Sg) : Rs := p_put σ (k) 23 (t1 + t2) (fun s1 => r12 x1 s1)
set_option maxRecDepth 100000 in
set_option maxHeartbeats 4000000 in
theorem k_X11_puzzle_b53 {q : Mc} {E : En} {L : List Nat} {o : Int32 × Sg} (C : Cx q E L cX11_puzzle 3 RX11 (some .int) (5)) (k : Nat) (hB : Bk L sh_AuntsPuzzleModel k) (r12 : Int32 → Sg → Rs) (hr12 : ∀ (x1 : Int32) (σ : Sg), r12 x1 σ = some o → Vx q E L 3 (some .int) o 12 [(0, .ref (E.2.1 (k))), (1, .int x1)] [] σ) (x1 : Int32) (t1 : Int32) (t2 : Int32) (σ : Sg) (hf : f_X11_puzzle_b53 k r12 x1 t1 t2 σ = some o) : Vx q E L 3 (some .int) o 53 [(0, .ref (E.2.1 (k))), (1, .int x1)] [.int t2, .int t1, .ref (E.2.1 (k))] σ := by
  unfold f_X11_puzzle_b53 at hf
  refine v_iadd 53 C dX11_puzzle_53 ?_
  refine v_putI 54 C lp_X11_135 (hB 0 _ rfl) (by decide) rfl dX11_puzzle_54 hf (fun s1 hf => ?_)
  refine v_goto (tgt := 12) 57 C dX11_puzzle_57 (by decide) ?_
  exact Vx.lv [0, 1] rfl (hr12 x1 s1 hf)
def f_X11_puzzle_b34 (k : Nat) (r12 : Int32 → Sg → Rs) (σ : Sg) : Rs := p_call (f_X11_statement k σ) (fun v1 s2 => if v1 = 0 then (f_X11_puzzle_b53 k r12 v1 (s2 (k) 23) 0 s2) else (f_X11_puzzle_b53 k r12 v1 (s2 (k) 23) 1 s2))
set_option maxRecDepth 100000 in
set_option maxHeartbeats 4000000 in
theorem k_X11_puzzle_b34 {q : Mc} {E : En} {L : List Nat} {o : Int32 × Sg} (C : Cx q E L cX11_puzzle 3 RX11 (some .int) (5)) (k : Nat) (hB : Bk L sh_AuntsPuzzleModel k) (r12 : Int32 → Sg → Rs) (hr12 : ∀ (x1 : Int32) (σ : Sg), r12 x1 σ = some o → Vx q E L 3 (some .int) o 12 [(0, .ref (E.2.1 (k))), (1, .int x1)] [] σ) (σ : Sg) (hf : f_X11_puzzle_b34 k r12 σ = some o) : Vx q E L 3 (some .int) o 34 [(0, .ref (E.2.1 (k)))] [] σ := by
  unfold f_X11_puzzle_b34 at hf
  refine v_aload_n 34 C dX11_puzzle_34 rfl rfl ?_
  refine v_callV (st := []) 35 C [] lm_X11_147 ly_X11_statement (hB 0 _ rfl) (by decide) dX11_puzzle_35 rfl (by decide) rfl (Nat.le_of_ble_eq_true rfl) (fun o1 h1 => m_X11_statement k hB  σ o1 h1) hf (fun v1 s2 hf => ?_)
  refine v_istore_n (lv' := [(0, .ref (E.2.1 (k))), (1, .int v1)]) 38 C dX11_puzzle_38 rfl (by decide) rfl rfl ?_
  refine v_aload_n 39 C dX11_puzzle_39 rfl rfl ?_
  refine v_dup 40 C dX11_puzzle_40 rfl ?_
  refine v_getI (dum := 0) 41 C lk_X11_135 (hB 0 _ rfl) (by decide) rfl dX11_puzzle_41 ?_
  refine v_iload_n 44 C dX11_puzzle_44 rfl rfl ?_
  refine v_if_eq (tgt := 52) 45 C dX11_puzzle_45 (by decide) hf (fun hf => ?_) (fun hf => ?_)
  · refine v_iconst (v := 0) 52 C dX11_puzzle_52 (by decide) ?_
    exact Vx.lv [0, 1] rfl (k_X11_puzzle_b53 C k hB r12 hr12 v1 (s2 (k) 23) 0 s2 hf)
  · refine v_iconst (v := 1) 48 C dX11_puzzle_48 (by decide) ?_
    refine v_goto (tgt := 53) 49 C dX11_puzzle_49 (by decide) ?_
    exact Vx.lv [0, 1] rfl (k_X11_puzzle_b53 C k hB r12 hr12 v1 (s2 (k) 23) 1 s2 hf)
def f_X11_puzzle_b12 (k : Nat)  : Nat → Int32 → Sg → Rs
  | 0, _, _ => none
  | n + 1, x1, σ => if x1 = 0 then (f_X11_puzzle_b60 k x1 σ) else (if (σ (k) 22) < (σ (k) 21) then (f_X11_puzzle_b34 k (f_X11_puzzle_b12 k n) σ) else (if (σ (k) 23) = 0 then (f_X11_puzzle_b34 k (f_X11_puzzle_b12 k n) σ) else (f_X11_puzzle_b60 k x1 σ)))
set_option maxRecDepth 100000 in
set_option maxHeartbeats 4000000 in
theorem k_X11_puzzle_b12 {q : Mc} {E : En} {L : List Nat} {o : Int32 × Sg} (C : Cx q E L cX11_puzzle 3 RX11 (some .int) (5)) (k : Nat) (hB : Bk L sh_AuntsPuzzleModel k) (n : Nat) : ∀ (x1 : Int32) (σ : Sg), f_X11_puzzle_b12 k n x1 σ = some o → Vx q E L 3 (some .int) o 12 [(0, .ref (E.2.1 (k))), (1, .int x1)] [] σ := by
  induction n with
  | zero => intro x1 σ hf; cases (show (none : Rs) = some o from hf)
  | succ n ih =>
    intro x1 σ hf
    rw [f_X11_puzzle_b12] at hf
    refine v_iload_n 12 C dX11_puzzle_12 rfl rfl ?_
    refine v_if_eq (tgt := 60) 13 C dX11_puzzle_13 (by decide) hf (fun hf => ?_) (fun hf => ?_)
    · exact Vx.lv [0, 1] rfl (k_X11_puzzle_b60 C k hB x1 σ hf)
    · refine v_aload_n 16 C dX11_puzzle_16 rfl rfl ?_
      refine v_getI (dum := 0) 17 C lk_X11_118 (hB 0 _ rfl) (by decide) rfl dX11_puzzle_17 ?_
      refine v_aload_n 20 C dX11_puzzle_20 rfl rfl ?_
      refine v_getI (dum := 0) 21 C lk_X11_109 (hB 0 _ rfl) (by decide) rfl dX11_puzzle_21 ?_
      refine v_icmp_lt (tgt := 34) 24 C dX11_puzzle_24 (by decide) hf (fun hf => ?_) (fun hf => ?_)
      · exact Vx.lv [0] rfl (k_X11_puzzle_b34 C k hB (f_X11_puzzle_b12 k n) ih σ hf)
      · refine v_aload_n 27 C dX11_puzzle_27 rfl rfl ?_
        refine v_getI (dum := 0) 28 C lk_X11_135 (hB 0 _ rfl) (by decide) rfl dX11_puzzle_28 ?_
        refine v_if_ne (tgt := 60) 31 C dX11_puzzle_31 (by decide) hf (fun hf => ?_) (fun hf => ?_)
        · exact Vx.lv [0, 1] rfl (k_X11_puzzle_b60 C k hB x1 σ hf)
        · exact Vx.lv [0] rfl (k_X11_puzzle_b34 C k hB (f_X11_puzzle_b12 k n) ih σ hf)
def f_X11_puzzle (k : Nat) (σ : Sg) : Rs := p_put σ (k) 22 0 (fun s1 => p_put s1 (k) 23 0 (fun s2 => f_X11_puzzle_b12 k fu 1 s2))
set_option maxRecDepth 100000 in
set_option maxHeartbeats 4000000 in
theorem k_X11_puzzle_b0 {q : Mc} {E : En} {L : List Nat} {o : Int32 × Sg} (C : Cx q E L cX11_puzzle 3 RX11 (some .int) (5)) (k : Nat) (hB : Bk L sh_AuntsPuzzleModel k) (σ : Sg) (hf : f_X11_puzzle k σ = some o) : Vx q E L 3 (some .int) o 0 [(0, .ref (E.2.1 (k)))] [] σ := by
  unfold f_X11_puzzle at hf
  refine v_aload_n 0 C dX11_puzzle_0 rfl rfl ?_
  refine v_iconst (v := 0) 1 C dX11_puzzle_1 (by decide) ?_
  refine v_putI 2 C lp_X11_118 (hB 0 _ rfl) (by decide) rfl dX11_puzzle_2 hf (fun s1 hf => ?_)
  refine v_aload_n 5 C dX11_puzzle_5 rfl rfl ?_
  refine v_iconst (v := 0) 6 C dX11_puzzle_6 (by decide) ?_
  refine v_putI 7 C lp_X11_135 (hB 0 _ rfl) (by decide) rfl dX11_puzzle_7 hf (fun s2 hf => ?_)
  refine v_iconst (v := 1) 10 C dX11_puzzle_10 (by decide) ?_
  refine v_istore_n (lv' := [(0, .ref (E.2.1 (k))), (1, .int 1)]) 11 C dX11_puzzle_11 rfl (by decide) rfl rfl ?_
  exact Vx.lv [0, 1] rfl (k_X11_puzzle_b12 C k hB fu 1 s2 hf)
theorem m_X11_puzzle {l : Launch} {E : En} {L : List Nat} (k : Nat) (hB : Bk L sh_AuntsPuzzleModel k) (σ : Sg) (o : Int32 × Sg) (hf : f_X11_puzzle k σ = some o) : Mi l yX11_puzzle cX11_puzzle 3 (some .int) (5) E L [.ref (E.2.1 (k))] σ o :=
  Mi.of RX11 rfl (by decide) (Nat.le_of_ble_eq_true rfl) (fun q hq C => by subst hq; exact k_X11_puzzle_b0 C k hB  σ hf)
