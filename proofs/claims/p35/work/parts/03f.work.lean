/-! printed by wip/whole/gen/gen.py: methods as pure functions, and that the machine does them -/
def f_X9_addCells_b77 (k : Nat) (r2 : Int32 → Int32 → Int32 → Sg → Rs) (x1 : Int32) (x2 : Int32) (x3 : Int32) (σ : Sg) : Rs := r2 x1 x2 (x3 + 1) σ
set_option maxRecDepth 100000 in
set_option maxHeartbeats 4000000 in
theorem k_X9_addCells_b77 {q : Mc} {E : En} {L : List Nat} {o : Int32 × Sg} (C : Cx q E L cX9_addCells 5 RX9 none (2)) (k : Nat) (hB : Bk L sh_Work k) (r2 : Int32 → Int32 → Int32 → Sg → Rs) (hr2 : ∀ (x1 : Int32) (x2 : Int32) (x3 : Int32) (σ : Sg), r2 x1 x2 x3 σ = some o → Vx q E L 5 none o 2 [(0, .ref (E.2.1 (k))), (1, .int x1), (2, .int x2), (3, .int x3)] [] σ) (x1 : Int32) (x2 : Int32) (x3 : Int32) (σ : Sg) (hf : f_X9_addCells_b77 k r2 x1 x2 x3 σ = some o) : Vx q E L 5 none o 77 [(0, .ref (E.2.1 (k))), (1, .int x1), (2, .int x2), (3, .int x3)] [] σ := by
  unfold f_X9_addCells_b77 at hf
  refine v_iinc (v := x3 + 1) (lv' := [(0, .ref (E.2.1 (k))), (1, .int x1), (2, .int x2), (3, .int (x3 + 1))]) 77 C dX9_addCells_77 rfl (by rfl) (by decide) rfl rfl ?_
  refine v_goto (tgt := 2) 80 C dX9_addCells_80 (by decide) ?_
  exact Vx.lv [0, 1, 2, 3] rfl (hr2 x1 x2 (x3 + 1) σ hf)
def f_X9_addCells_b36 (k : Nat) (r2 : Int32 → Int32 → Int32 → Sg → Rs) (x1 : Int32) (x2 : Int32) (x3 : Int32) (t0 : Int32) (σ : Sg) : Rs := if t0 = 0 then (f_X9_addCells_b77 k r2 x1 x2 x3 σ) else (p_call (f_X0_isFilled (k + 1 + 6) x3 σ) (fun v1 s2 => if v1 = 0 then (p_wr s2 (k + 17) 16 (s2 (k) 4) x3 (fun s3 => p_put s3 (k) 4 ((s3 (k) 4) + 1) (fun s4 => f_X9_addCells_b77 k r2 x1 x2 x3 s4))) else (f_X9_addCells_b77 k r2 x1 x2 x3 s2)))
set_option maxRecDepth 100000 in
set_option maxHeartbeats 4000000 in
theorem k_X9_addCells_b36 {q : Mc} {E : En} {L : List Nat} {o : Int32 × Sg} (C : Cx q E L cX9_addCells 5 RX9 none (2)) (k : Nat) (hB : Bk L sh_Work k) (r2 : Int32 → Int32 → Int32 → Sg → Rs) (hr2 : ∀ (x1 : Int32) (x2 : Int32) (x3 : Int32) (σ : Sg), r2 x1 x2 x3 σ = some o → Vx q E L 5 none o 2 [(0, .ref (E.2.1 (k))), (1, .int x1), (2, .int x2), (3, .int x3)] [] σ) (x1 : Int32) (x2 : Int32) (x3 : Int32) (t0 : Int32) (σ : Sg) (hf : f_X9_addCells_b36 k r2 x1 x2 x3 t0 σ = some o) : Vx q E L 5 none o 36 [(0, .ref (E.2.1 (k))), (1, .int x1), (2, .int x2), (3, .int x3)] [.int t0] σ := by
  unfold f_X9_addCells_b36 at hf
  refine v_istore (lv' := [(0, .ref (E.2.1 (k))), (1, .int x1), (2, .int x2), (3, .int x3), (4, .int t0)]) 36 C dX9_addCells_36 (by decide) rfl rfl ?_
  refine v_iload 38 C dX9_addCells_38 rfl ?_
  refine v_if_eq (tgt := 77) 40 C dX9_addCells_40 (by decide) hf (fun hf => ?_) (fun hf => ?_)
  · exact Vx.lv [0, 1, 2, 3] rfl (k_X9_addCells_b77 C k hB r2 hr2 x1 x2 x3 σ hf)
  · refine v_aload_n 43 C dX9_addCells_43 rfl rfl ?_
    refine v_getR 44 C lk_X9_12 (hB 0 _ rfl) (by decide) rfl dX9_addCells_44 ?_
    refine v_getR 47 C lk_X9_29 ((hB.sub (sh' := sh_Game) 1 rfl) 0 _ rfl) (by decide) rfl dX9_addCells_47 ?_
    refine v_iload_n 50 C dX9_addCells_50 rfl rfl ?_
    refine v_callV (st := []) 51 C [.int x3] lm_X9_78 ly_X0_isFilled (((hB.sub (sh' := sh_Game) 1 rfl).sub (sh' := sh_Board) 6 rfl) 0 _ rfl) (by decide) dX9_addCells_51 rfl (by decide) rfl (Nat.le_of_ble_eq_true rfl) (fun o1 h1 => m_X0_isFilled (k + 1 + 6) ((hB.sub (sh' := sh_Game) 1 rfl).sub (sh' := sh_Board) 6 rfl) x3 σ o1 h1) hf (fun v1 s2 hf => ?_)
    refine v_if_ne (tgt := 77) 54 C dX9_addCells_54 (by decide) hf (fun hf => ?_) (fun hf => ?_)
    · exact Vx.lv [0, 1, 2, 3] rfl (k_X9_addCells_b77 C k hB r2 hr2 x1 x2 x3 s2 hf)
    · refine v_aload_n 57 C dX9_addCells_57 rfl rfl ?_
      refine v_getR 58 C lk_X9_18 (hB 0 _ rfl) (by decide) rfl dX9_addCells_58 ?_
      refine v_aload_n 61 C dX9_addCells_61 rfl rfl ?_
      refine v_getI (dum := 0) 62 C lk_X9_37 (hB 0 _ rfl) (by decide) rfl dX9_addCells_62 ?_
      refine v_iload_n 65 C dX9_addCells_65 rfl rfl ?_
      refine v_iast 66 C (hB 17 _ rfl) dX9_addCells_66 hf (fun s3 hf => ?_)
      refine v_aload_n 67 C dX9_addCells_67 rfl rfl ?_
      refine v_dup 68 C dX9_addCells_68 rfl ?_
      refine v_getI (dum := 0) 69 C lk_X9_37 (hB 0 _ rfl) (by decide) rfl dX9_addCells_69 ?_
      refine v_iconst (v := 1) 72 C dX9_addCells_72 (by decide) ?_
      refine v_iadd 73 C dX9_addCells_73 ?_
      refine v_putI 74 C lp_X9_37 (hB 0 _ rfl) (by decide) rfl dX9_addCells_74 hf (fun s4 hf => ?_)
      exact Vx.lv [0, 1, 2, 3] rfl (k_X9_addCells_b77 C k hB r2 hr2 x1 x2 x3 s4 hf)
def f_X9_addCells_b2 (k : Nat)  : Nat → Int32 → Int32 → Int32 → Sg → Rs
  | 0, _, _, _, _ => none
  | n + 1, x1, x2, x3, σ => if (σ (k + 1 + 1) 2) ≤ x3 then (some (0, σ)) else (p_rd σ (k + 1 + 1 + 3) 16 x3 (fun v1 => if v1 = 0 then (f_X9_addCells_b36 k (f_X9_addCells_b2 k n) x1 x2 x3 x2 σ) else (f_X9_addCells_b36 k (f_X9_addCells_b2 k n) x1 x2 x3 x1 σ)))
set_option maxRecDepth 100000 in
set_option maxHeartbeats 4000000 in
theorem k_X9_addCells_b2 {q : Mc} {E : En} {L : List Nat} {o : Int32 × Sg} (C : Cx q E L cX9_addCells 5 RX9 none (2)) (k : Nat) (hB : Bk L sh_Work k) (n : Nat) : ∀ (x1 : Int32) (x2 : Int32) (x3 : Int32) (σ : Sg), f_X9_addCells_b2 k n x1 x2 x3 σ = some o → Vx q E L 5 none o 2 [(0, .ref (E.2.1 (k))), (1, .int x1), (2, .int x2), (3, .int x3)] [] σ := by
  induction n with
  | zero => intro x1 x2 x3 σ hf; cases (show (none : Rs) = some o from hf)
  | succ n ih =>
    intro x1 x2 x3 σ hf
    rw [f_X9_addCells_b2] at hf
    refine v_iload_n 2 C dX9_addCells_2 rfl rfl ?_
    refine v_aload_n 3 C dX9_addCells_3 rfl rfl ?_
    refine v_getR 4 C lk_X9_12 (hB 0 _ rfl) (by decide) rfl dX9_addCells_4 ?_
    refine v_getR 7 C lk_X9_65 ((hB.sub (sh' := sh_Game) 1 rfl) 0 _ rfl) (by decide) rfl dX9_addCells_7 ?_
    refine v_getI (dum := 0) 10 C lk_X9_69 (((hB.sub (sh' := sh_Game) 1 rfl).sub (sh' := sh_Cut) 1 rfl) 0 _ rfl) (by decide) rfl dX9_addCells_10 ?_
    refine v_icmp_ge (tgt := 83) 13 C dX9_addCells_13 (by decide) hf (fun hf => ?_) (fun hf => ?_)
    · exact v_ret (r := 0) 83 C rfl dX9_addCells_83 hf
    · refine v_aload_n 16 C dX9_addCells_16 rfl rfl ?_
      refine v_getR 17 C lk_X9_12 (hB 0 _ rfl) (by decide) rfl dX9_addCells_17 ?_
      refine v_getR 20 C lk_X9_65 ((hB.sub (sh' := sh_Game) 1 rfl) 0 _ rfl) (by decide) rfl dX9_addCells_20 ?_
      refine v_getR 23 C lk_X9_74 (((hB.sub (sh' := sh_Game) 1 rfl).sub (sh' := sh_Cut) 1 rfl) 0 _ rfl) (by decide) rfl dX9_addCells_23 ?_
      refine v_iload_n 26 C dX9_addCells_26 rfl rfl ?_
      refine v_zald 27 C (((hB.sub (sh' := sh_Game) 1 rfl).sub (sh' := sh_Cut) 1 rfl) 3 _ rfl) dX9_addCells_27 hf (fun v1 hf => ?_)
      refine v_if_eq (tgt := 35) 28 C dX9_addCells_28 (by decide) hf (fun hf => ?_) (fun hf => ?_)
      · refine v_iload_n 35 C dX9_addCells_35 rfl rfl ?_
        exact Vx.lv [0, 1, 2, 3] rfl (k_X9_addCells_b36 C k hB (f_X9_addCells_b2 k n) ih x1 x2 x3 x2 σ hf)
      · refine v_iload_n 31 C dX9_addCells_31 rfl rfl ?_
        refine v_goto (tgt := 36) 32 C dX9_addCells_32 (by decide) ?_
        exact Vx.lv [0, 1, 2, 3] rfl (k_X9_addCells_b36 C k hB (f_X9_addCells_b2 k n) ih x1 x2 x3 x1 σ hf)
def f_X9_addCells (k : Nat) (x1 : Int32) (x2 : Int32) (σ : Sg) : Rs := f_X9_addCells_b2 k fu x1 x2 0 σ
set_option maxRecDepth 100000 in
set_option maxHeartbeats 4000000 in
theorem k_X9_addCells_b0 {q : Mc} {E : En} {L : List Nat} {o : Int32 × Sg} (C : Cx q E L cX9_addCells 5 RX9 none (2)) (k : Nat) (hB : Bk L sh_Work k) (x1 : Int32) (x2 : Int32) (σ : Sg) (hf : f_X9_addCells k x1 x2 σ = some o) : Vx q E L 5 none o 0 [(0, .ref (E.2.1 (k))), (1, .int x1), (2, .int x2)] [] σ := by
  unfold f_X9_addCells at hf
  refine v_iconst (v := 0) 0 C dX9_addCells_0 (by decide) ?_
  refine v_istore_n (lv' := [(0, .ref (E.2.1 (k))), (1, .int x1), (2, .int x2), (3, .int 0)]) 1 C dX9_addCells_1 rfl (by decide) rfl rfl ?_
  exact Vx.lv [0, 1, 2, 3] rfl (k_X9_addCells_b2 C k hB fu x1 x2 0 σ hf)
theorem m_X9_addCells {l : Launch} {E : En} {L : List Nat} (k : Nat) (hB : Bk L sh_Work k) (x1 : Int32) (x2 : Int32) (σ : Sg) (o : Int32 × Sg) (hf : f_X9_addCells k x1 x2 σ = some o) : Mi l yX9_addCells cX9_addCells 5 none (2) E L [.ref (E.2.1 (k)), .int x1, .int x2] σ o :=
  Mi.of RX9 rfl (by decide) (Nat.le_of_ble_eq_true rfl) (fun q hq C => by subst hq; exact k_X9_addCells_b0 C k hB x1 x2 σ hf)
def f_X9_begin (k k1 : Nat) (x2 : Int32) (σ : Sg) : Rs := p_call (f_X3_copyFrom (k + 1) k1 σ) (fun v1 s2 => p_put s2 (k) 3 x2 (fun s3 => p_put s3 (k) 4 0 (fun s4 => if (s4 (k) 3) = 1 then (p_call (f_X9_addCells k 1 0 s4) (fun v7 s8 => p_call (f_X9_addCells k 0 1 s8) (fun v9 s10 => some (0, s10)))) else (p_call (f_X9_addCells k 1 1 s4) (fun v5 s6 => some (0, s6))))))
set_option maxRecDepth 100000 in
set_option maxHeartbeats 4000000 in
theorem k_X9_begin_b0 {q : Mc} {E : En} {L : List Nat} {o : Int32 × Sg} (C : Cx q E L cX9_begin 3 RX9 none (3)) (k k1 : Nat) (hB : Bk L sh_Work k) (hB1 : Bk L sh_Game k1) (x2 : Int32) (σ : Sg) (hf : f_X9_begin k k1 x2 σ = some o) : Vx q E L 3 none o 0 [(0, .ref (E.2.1 (k))), (1, .ref (E.2.1 (k1))), (2, .int x2)] [] σ := by
  unfold f_X9_begin at hf
  refine v_aload_n 0 C dX9_begin_0 rfl rfl ?_
  refine v_getR 1 C lk_X9_12 (hB 0 _ rfl) (by decide) rfl dX9_begin_1 ?_
  refine v_aload_n 4 C dX9_begin_4 rfl rfl ?_
  refine v_callV (st := []) 5 C [.ref (E.2.1 (k1))] lm_X9_54 ly_X3_copyFrom ((hB.sub (sh' := sh_Game) 1 rfl) 0 _ rfl) (by decide) dX9_begin_5 rfl (by decide) rfl (Nat.le_of_ble_eq_true rfl) (fun o1 h1 => m_X3_copyFrom (k + 1) k1 (hB.sub (sh' := sh_Game) 1 rfl) hB1  σ o1 h1) hf (fun v1 s2 hf => ?_)
  refine v_aload_n 8 C dX9_begin_8 rfl rfl ?_
  refine v_iload_n 9 C dX9_begin_9 rfl rfl ?_
  refine v_putI 10 C lp_X9_58 (hB 0 _ rfl) (by decide) rfl dX9_begin_10 hf (fun s3 hf => ?_)
  refine v_aload_n 13 C dX9_begin_13 rfl rfl ?_
  refine v_iconst (v := 0) 14 C dX9_begin_14 (by decide) ?_
  refine v_putI 15 C lp_X9_37 (hB 0 _ rfl) (by decide) rfl dX9_begin_15 hf (fun s4 hf => ?_)
  refine v_aload_n 18 C dX9_begin_18 rfl rfl ?_
  refine v_getI (dum := 0) 19 C lk_X9_58 (hB 0 _ rfl) (by decide) rfl dX9_begin_19 ?_
  refine v_iconst (v := 1) 22 C dX9_begin_22 (by decide) ?_
  refine v_icmp_ne (tgt := 41) 23 C dX9_begin_23 (by decide) hf (fun hf => ?_) (fun hf => ?_)
  · refine v_aload_n 41 C dX9_begin_41 rfl rfl ?_
    refine v_iconst (v := 1) 42 C dX9_begin_42 (by decide) ?_
    refine v_iconst (v := 1) 43 C dX9_begin_43 (by decide) ?_
    refine v_callV (st := []) 44 C [.int 1, .int 1] lm_X9_61 ly_X9_addCells (hB 0 _ rfl) (by decide) dX9_begin_44 rfl (by decide) rfl (Nat.le_of_ble_eq_true rfl) (fun o1 h1 => m_X9_addCells k hB 1 1 s4 o1 h1) hf (fun v5 s6 hf => ?_)
    exact v_ret (r := 0) 47 C rfl dX9_begin_47 hf
  · refine v_aload_n 26 C dX9_begin_26 rfl rfl ?_
    refine v_iconst (v := 1) 27 C dX9_begin_27 (by decide) ?_
    refine v_iconst (v := 0) 28 C dX9_begin_28 (by decide) ?_
    refine v_callV (st := []) 29 C [.int 1, .int 0] lm_X9_61 ly_X9_addCells (hB 0 _ rfl) (by decide) dX9_begin_29 rfl (by decide) rfl (Nat.le_of_ble_eq_true rfl) (fun o1 h1 => m_X9_addCells k hB 1 0 s4 o1 h1) hf (fun v7 s8 hf => ?_)
    refine v_aload_n 32 C dX9_begin_32 rfl rfl ?_
    refine v_iconst (v := 0) 33 C dX9_begin_33 (by decide) ?_
    refine v_iconst (v := 1) 34 C dX9_begin_34 (by decide) ?_
    refine v_callV (st := []) 35 C [.int 0, .int 1] lm_X9_61 ly_X9_addCells (hB 0 _ rfl) (by decide) dX9_begin_35 rfl (by decide) rfl (Nat.le_of_ble_eq_true rfl) (fun o1 h1 => m_X9_addCells k hB 0 1 s8 o1 h1) hf (fun v9 s10 hf => ?_)
    refine v_goto (tgt := 47) 38 C dX9_begin_38 (by decide) ?_
    exact v_ret (r := 0) 47 C rfl dX9_begin_47 hf
theorem m_X9_begin {l : Launch} {E : En} {L : List Nat} (k k1 : Nat) (hB : Bk L sh_Work k) (hB1 : Bk L sh_Game k1) (x2 : Int32) (σ : Sg) (o : Int32 × Sg) (hf : f_X9_begin k k1 x2 σ = some o) : Mi l yX9_begin cX9_begin 3 none (3) E L [.ref (E.2.1 (k)), .ref (E.2.1 (k1)), .int x2] σ o :=
  Mi.of RX9 rfl (by decide) (Nat.le_of_ble_eq_true rfl) (fun q hq C => by subst hq; exact k_X9_begin_b0 C k k1 hB hB1 x2 σ hf)
def f_X9_sortingCost_b67 (k k1 : Nat) (r39 : Int32 → Int32 → Int32 → Sg → Rs) (x2 : Int32) (x3 : Int32) (x4 : Int32) (σ : Sg) : Rs := r39 x2 x3 (x4 + 1) σ
set_option maxRecDepth 100000 in
set_option maxHeartbeats 4000000 in
theorem k_X9_sortingCost_b67 {q : Mc} {E : En} {L : List Nat} {o : Int32 × Sg} (C : Cx q E L cX9_sortingCost 5 RX9 (some .int) (2)) (k k1 : Nat) (hB : Bk L sh_Work k) (hB1 : Bk L sh_Board k1) (r39 : Int32 → Int32 → Int32 → Sg → Rs) (hr39 : ∀ (x2 : Int32) (x3 : Int32) (x4 : Int32) (σ : Sg), r39 x2 x3 x4 σ = some o → Vx q E L 5 (some .int) o 39 [(0, .ref (E.2.1 (k))), (1, .ref (E.2.1 (k1))), (2, .int x2), (3, .int x3), (4, .int x4)] [] σ) (x2 : Int32) (x3 : Int32) (x4 : Int32) (σ : Sg) (hf : f_X9_sortingCost_b67 k k1 r39 x2 x3 x4 σ = some o) : Vx q E L 5 (some .int) o 67 [(0, .ref (E.2.1 (k))), (1, .ref (E.2.1 (k1))), (2, .int x2), (3, .int x3), (4, .int x4)] [] σ := by
  unfold f_X9_sortingCost_b67 at hf
  refine v_iinc (v := x4 + 1) (lv' := [(0, .ref (E.2.1 (k))), (1, .ref (E.2.1 (k1))), (2, .int x2), (3, .int x3), (4, .int (x4 + 1))]) 67 C dX9_sortingCost_67 rfl (by rfl) (by decide) rfl rfl ?_
  refine v_goto (tgt := 39) 70 C dX9_sortingCost_70 (by decide) ?_
  exact Vx.lv [0, 1, 2, 3, 4] rfl (hr39 x2 x3 (x4 + 1) σ hf)
def f_X9_sortingCost_b39 (k k1 : Nat)  : Nat → Int32 → Int32 → Int32 → Sg → Rs
  | 0, _, _, _, _ => none
  | n + 1, x2, x3, x4, σ => if (σ (k + 1 + 1) 2) ≤ x4 then (some (x3, σ)) else (p_call (f_X0_isAway k1 x4 σ) (fun v1 s2 => if v1 = 0 then (f_X9_sortingCost_b67 k k1 (f_X9_sortingCost_b39 k k1 n) x2 (x3 + x2) x4 s2) else (f_X9_sortingCost_b67 k k1 (f_X9_sortingCost_b39 k k1 n) x2 x3 x4 s2)))
set_option maxRecDepth 100000 in
set_option maxHeartbeats 4000000 in
theorem k_X9_sortingCost_b39 {q : Mc} {E : En} {L : List Nat} {o : Int32 × Sg} (C : Cx q E L cX9_sortingCost 5 RX9 (some .int) (2)) (k k1 : Nat) (hB : Bk L sh_Work k) (hB1 : Bk L sh_Board k1) (n : Nat) : ∀ (x2 : Int32) (x3 : Int32) (x4 : Int32) (σ : Sg), f_X9_sortingCost_b39 k k1 n x2 x3 x4 σ = some o → Vx q E L 5 (some .int) o 39 [(0, .ref (E.2.1 (k))), (1, .ref (E.2.1 (k1))), (2, .int x2), (3, .int x3), (4, .int x4)] [] σ := by
  induction n with
  | zero => intro x2 x3 x4 σ hf; cases (show (none : Rs) = some o from hf)
  | succ n ih =>
    intro x2 x3 x4 σ hf
    rw [f_X9_sortingCost_b39] at hf
    refine v_iload 39 C dX9_sortingCost_39 rfl ?_
    refine v_aload_n 41 C dX9_sortingCost_41 rfl rfl ?_
    refine v_getR 42 C lk_X9_12 (hB 0 _ rfl) (by decide) rfl dX9_sortingCost_42 ?_
    refine v_getR 45 C lk_X9_65 ((hB.sub (sh' := sh_Game) 1 rfl) 0 _ rfl) (by decide) rfl dX9_sortingCost_45 ?_
    refine v_getI (dum := 0) 48 C lk_X9_69 (((hB.sub (sh' := sh_Game) 1 rfl).sub (sh' := sh_Cut) 1 rfl) 0 _ rfl) (by decide) rfl dX9_sortingCost_48 ?_
    refine v_icmp_ge (tgt := 73) 51 C dX9_sortingCost_51 (by decide) hf (fun hf => ?_) (fun hf => ?_)
    · refine v_iload_n 73 C dX9_sortingCost_73 rfl rfl ?_
      exact v_iret 74 C rfl dX9_sortingCost_74 hf
    · refine v_aload_n 54 C dX9_sortingCost_54 rfl rfl ?_
      refine v_iload 55 C dX9_sortingCost_55 rfl ?_
      refine v_callV (st := []) 57 C [.int x4] lm_X9_84 ly_X0_isAway (hB1 0 _ rfl) (by decide) dX9_sortingCost_57 rfl (by decide) rfl (Nat.le_of_ble_eq_true rfl) (fun o1 h1 => m_X0_isAway k1 hB1 x4 σ o1 h1) hf (fun v1 s2 hf => ?_)
      refine v_if_ne (tgt := 67) 60 C dX9_sortingCost_60 (by decide) hf (fun hf => ?_) (fun hf => ?_)
      · exact Vx.lv [0, 1, 2, 3, 4] rfl (k_X9_sortingCost_b67 C k k1 hB hB1 (f_X9_sortingCost_b39 k k1 n) ih x2 x3 x4 s2 hf)
      · refine v_iload_n 63 C dX9_sortingCost_63 rfl rfl ?_
        refine v_iload_n 64 C dX9_sortingCost_64 rfl rfl ?_
        refine v_iadd 65 C dX9_sortingCost_65 ?_
        refine v_istore_n (lv' := [(0, .ref (E.2.1 (k))), (1, .ref (E.2.1 (k1))), (2, .int x2), (3, .int (x3 + x2)), (4, .int x4)]) 66 C dX9_sortingCost_66 rfl (by decide) rfl rfl ?_
        exact Vx.lv [0, 1, 2, 3, 4] rfl (k_X9_sortingCost_b67 C k k1 hB hB1 (f_X9_sortingCost_b39 k k1 n) ih x2 (x3 + x2) x4 s2 hf)
def f_X9_sortingCost_b33 (k k1 : Nat) (t0 : Int32) (σ : Sg) : Rs := f_X9_sortingCost_b39 k k1 fu t0 0 0 σ
set_option maxRecDepth 100000 in
set_option maxHeartbeats 4000000 in
theorem k_X9_sortingCost_b33 {q : Mc} {E : En} {L : List Nat} {o : Int32 × Sg} (C : Cx q E L cX9_sortingCost 5 RX9 (some .int) (2)) (k k1 : Nat) (hB : Bk L sh_Work k) (hB1 : Bk L sh_Board k1) (t0 : Int32) (σ : Sg) (hf : f_X9_sortingCost_b33 k k1 t0 σ = some o) : Vx q E L 5 (some .int) o 33 [(0, .ref (E.2.1 (k))), (1, .ref (E.2.1 (k1)))] [.int t0] σ := by
  unfold f_X9_sortingCost_b33 at hf
  refine v_istore_n (lv' := [(0, .ref (E.2.1 (k))), (1, .ref (E.2.1 (k1))), (2, .int t0)]) 33 C dX9_sortingCost_33 rfl (by decide) rfl rfl ?_
  refine v_iconst (v := 0) 34 C dX9_sortingCost_34 (by decide) ?_
  refine v_istore_n (lv' := [(0, .ref (E.2.1 (k))), (1, .ref (E.2.1 (k1))), (2, .int t0), (3, .int 0)]) 35 C dX9_sortingCost_35 rfl (by decide) rfl rfl ?_
  refine v_iconst (v := 0) 36 C dX9_sortingCost_36 (by decide) ?_
  refine v_istore (lv' := [(0, .ref (E.2.1 (k))), (1, .ref (E.2.1 (k1))), (2, .int t0), (3, .int 0), (4, .int 0)]) 37 C dX9_sortingCost_37 (by decide) rfl rfl ?_
  exact Vx.lv [0, 1, 2, 3, 4] rfl (k_X9_sortingCost_b39 C k k1 hB hB1 fu t0 0 0 σ hf)
def f_X9_sortingCost_b28 (k k1 : Nat) (σ : Sg) : Rs := f_X9_sortingCost_b33 k k1 3 σ
set_option maxRecDepth 100000 in
set_option maxHeartbeats 4000000 in
theorem k_X9_sortingCost_b28 {q : Mc} {E : En} {L : List Nat} {o : Int32 × Sg} (C : Cx q E L cX9_sortingCost 5 RX9 (some .int) (2)) (k k1 : Nat) (hB : Bk L sh_Work k) (hB1 : Bk L sh_Board k1) (σ : Sg) (hf : f_X9_sortingCost_b28 k k1 σ = some o) : Vx q E L 5 (some .int) o 28 [(0, .ref (E.2.1 (k))), (1, .ref (E.2.1 (k1)))] [] σ := by
  unfold f_X9_sortingCost_b28 at hf
  refine v_iconst (v := 3) 28 C dX9_sortingCost_28 (by decide) ?_
  refine v_goto (tgt := 33) 29 C dX9_sortingCost_29 (by decide) ?_
  exact Vx.lv [0, 1] rfl (k_X9_sortingCost_b33 C k k1 hB hB1 3 σ hf)
def f_X9_sortingCost (k k1 : Nat) (σ : Sg) : Rs := if (σ (k) 3) = 2 then (f_X9_sortingCost_b33 k k1 2 σ) else (if (σ (k) 3) = 3 then (f_X9_sortingCost_b28 k k1 σ) else (if (σ (k) 3) = 4 then (f_X9_sortingCost_b28 k k1 σ) else (f_X9_sortingCost_b33 k k1 0 σ)))
set_option maxRecDepth 100000 in
set_option maxHeartbeats 4000000 in
theorem k_X9_sortingCost_b0 {q : Mc} {E : En} {L : List Nat} {o : Int32 × Sg} (C : Cx q E L cX9_sortingCost 5 RX9 (some .int) (2)) (k k1 : Nat) (hB : Bk L sh_Work k) (hB1 : Bk L sh_Board k1) (σ : Sg) (hf : f_X9_sortingCost k k1 σ = some o) : Vx q E L 5 (some .int) o 0 [(0, .ref (E.2.1 (k))), (1, .ref (E.2.1 (k1)))] [] σ := by
  unfold f_X9_sortingCost at hf
  refine v_aload_n 0 C dX9_sortingCost_0 rfl rfl ?_
  refine v_getI (dum := 0) 1 C lk_X9_58 (hB 0 _ rfl) (by decide) rfl dX9_sortingCost_1 ?_
  refine v_iconst (v := 2) 4 C dX9_sortingCost_4 (by decide) ?_
  refine v_icmp_ne (tgt := 12) 5 C dX9_sortingCost_5 (by decide) hf (fun hf => ?_) (fun hf => ?_)
  · refine v_aload_n 12 C dX9_sortingCost_12 rfl rfl ?_
    refine v_getI (dum := 0) 13 C lk_X9_58 (hB 0 _ rfl) (by decide) rfl dX9_sortingCost_13 ?_
    refine v_iconst (v := 3) 16 C dX9_sortingCost_16 (by decide) ?_
    refine v_icmp_eq (tgt := 28) 17 C dX9_sortingCost_17 (by decide) hf (fun hf => ?_) (fun hf => ?_)
    · exact Vx.lv [0, 1] rfl (k_X9_sortingCost_b28 C k k1 hB hB1 σ hf)
    · refine v_aload_n 20 C dX9_sortingCost_20 rfl rfl ?_
      refine v_getI (dum := 0) 21 C lk_X9_58 (hB 0 _ rfl) (by decide) rfl dX9_sortingCost_21 ?_
      refine v_iconst (v := 4) 24 C dX9_sortingCost_24 (by decide) ?_
      refine v_icmp_ne (tgt := 32) 25 C dX9_sortingCost_25 (by decide) hf (fun hf => ?_) (fun hf => ?_)
      · refine v_iconst (v := 0) 32 C dX9_sortingCost_32 (by decide) ?_
        exact Vx.lv [0, 1] rfl (k_X9_sortingCost_b33 C k k1 hB hB1 0 σ hf)
      · exact Vx.lv [0, 1] rfl (k_X9_sortingCost_b28 C k k1 hB hB1 σ hf)
  · refine v_iconst (v := 2) 8 C dX9_sortingCost_8 (by decide) ?_
    refine v_goto (tgt := 33) 9 C dX9_sortingCost_9 (by decide) ?_
    exact Vx.lv [0, 1] rfl (k_X9_sortingCost_b33 C k k1 hB hB1 2 σ hf)
theorem m_X9_sortingCost {l : Launch} {E : En} {L : List Nat} (k k1 : Nat) (hB : Bk L sh_Work k) (hB1 : Bk L sh_Board k1) (σ : Sg) (o : Int32 × Sg) (hf : f_X9_sortingCost k k1 σ = some o) : Mi l yX9_sortingCost cX9_sortingCost 5 (some .int) (2) E L [.ref (E.2.1 (k)), .ref (E.2.1 (k1))] σ o :=
  Mi.of RX9 rfl (by decide) (Nat.le_of_ble_eq_true rfl) (fun q hq C => by subst hq; exact k_X9_sortingCost_b0 C k k1 hB hB1  σ hf)
def f_X9_mark (k : Nat) (x1 : Int32) (x2 : Int32) (σ : Sg) : Rs := p_call (f_X1_codeOf (k + 1 + 1) x1 x2 σ) (fun v1 s2 => p_wr s2 (k + 18) 64 (σ (k) 5) v1 (fun s3 => p_put s3 (k) 5 ((s3 (k) 5) + 1) (fun s4 => some (0, s4))))
set_option maxRecDepth 100000 in
set_option maxHeartbeats 4000000 in
theorem k_X9_mark_b0 {q : Mc} {E : En} {L : List Nat} {o : Int32 × Sg} (C : Cx q E L cX9_mark 3 RX9 none (3)) (k : Nat) (hB : Bk L sh_Work k) (x1 : Int32) (x2 : Int32) (σ : Sg) (hf : f_X9_mark k x1 x2 σ = some o) : Vx q E L 3 none o 0 [(0, .ref (E.2.1 (k))), (1, .int x1), (2, .int x2)] [] σ := by
  unfold f_X9_mark at hf
  refine v_aload_n 0 C dX9_mark_0 rfl rfl ?_
  refine v_getR 1 C lk_X9_22 (hB 0 _ rfl) (by decide) rfl dX9_mark_1 ?_
  refine v_aload_n 4 C dX9_mark_4 rfl rfl ?_
  refine v_getI (dum := 0) 5 C lk_X9_93 (hB 0 _ rfl) (by decide) rfl dX9_mark_5 ?_
  refine v_aload_n 8 C dX9_mark_8 rfl rfl ?_
  refine v_getR 9 C lk_X9_12 (hB 0 _ rfl) (by decide) rfl dX9_mark_9 ?_
  refine v_getR 12 C lk_X9_65 ((hB.sub (sh' := sh_Game) 1 rfl) 0 _ rfl) (by decide) rfl dX9_mark_12 ?_
  refine v_iload_n 15 C dX9_mark_15 rfl rfl ?_
  refine v_iload_n 16 C dX9_mark_16 rfl rfl ?_
  refine v_callV (st := [.int (σ (k) 5), .ref (E.2.1 (k + 18))]) 17 C [.int x1, .int x2] lm_X9_126 ly_X1_codeOf (((hB.sub (sh' := sh_Game) 1 rfl).sub (sh' := sh_Cut) 1 rfl) 0 _ rfl) (by decide) dX9_mark_17 rfl (by decide) rfl (Nat.le_of_ble_eq_true rfl) (fun o1 h1 => m_X1_codeOf (k + 1 + 1) ((hB.sub (sh' := sh_Game) 1 rfl).sub (sh' := sh_Cut) 1 rfl) x1 x2 σ o1 h1) hf (fun v1 s2 hf => ?_)
  refine v_iast 20 C (hB 18 _ rfl) dX9_mark_20 hf (fun s3 hf => ?_)
  refine v_aload_n 21 C dX9_mark_21 rfl rfl ?_
  refine v_dup 22 C dX9_mark_22 rfl ?_
  refine v_getI (dum := 0) 23 C lk_X9_93 (hB 0 _ rfl) (by decide) rfl dX9_mark_23 ?_
  refine v_iconst (v := 1) 26 C dX9_mark_26 (by decide) ?_
  refine v_iadd 27 C dX9_mark_27 ?_
  refine v_putI 28 C lp_X9_93 (hB 0 _ rfl) (by decide) rfl dX9_mark_28 hf (fun s4 hf => ?_)
  exact v_ret (r := 0) 31 C rfl dX9_mark_31 hf
theorem m_X9_mark {l : Launch} {E : En} {L : List Nat} (k : Nat) (hB : Bk L sh_Work k) (x1 : Int32) (x2 : Int32) (σ : Sg) (o : Int32 × Sg) (hf : f_X9_mark k x1 x2 σ = some o) : Mi l yX9_mark cX9_mark 3 none (3) E L [.ref (E.2.1 (k)), .int x1, .int x2] σ o :=
  Mi.of RX9 rfl (by decide) (Nat.le_of_ble_eq_true rfl) (fun q hq C => by subst hq; exact k_X9_mark_b0 C k hB x1 x2 σ hf)
def f_X9_isMarked_b16 (k : Nat)  : Nat → Int32 → Int32 → Sg → Rs
  | 0, _, _, _ => none
  | n + 1, x3, x4, σ => if (σ (k) 5) ≤ x4 then (some (0, σ)) else (p_rd σ (k + 18) 64 x4 (fun v1 => if v1 = x3 then (some (1, σ)) else (f_X9_isMarked_b16 k n x3 (x4 + 1) σ)))
set_option maxRecDepth 100000 in
set_option maxHeartbeats 4000000 in
theorem k_X9_isMarked_b16 {q : Mc} {E : En} {L : List Nat} {o : Int32 × Sg} (C : Cx q E L cX9_isMarked 5 RX9 (some .boolean) (3)) (k : Nat) (hB : Bk L sh_Work k) (n : Nat) : ∀ (x3 : Int32) (x4 : Int32) (σ : Sg), f_X9_isMarked_b16 k n x3 x4 σ = some o → Vx q E L 5 (some .boolean) o 16 [(0, .ref (E.2.1 (k))), (3, .int x3), (4, .int x4)] [] σ := by
  induction n with
  | zero => intro x3 x4 σ hf; cases (show (none : Rs) = some o from hf)
  | succ n ih =>
    intro x3 x4 σ hf
    rw [f_X9_isMarked_b16] at hf
    refine v_iload 16 C dX9_isMarked_16 rfl ?_
    refine v_aload_n 18 C dX9_isMarked_18 rfl rfl ?_
    refine v_getI (dum := 0) 19 C lk_X9_93 (hB 0 _ rfl) (by decide) rfl dX9_isMarked_19 ?_
    refine v_icmp_ge (tgt := 44) 22 C dX9_isMarked_22 (by decide) hf (fun hf => ?_) (fun hf => ?_)
    · refine v_iconst (v := 0) 44 C dX9_isMarked_44 (by decide) ?_
      exact v_zretN 45 C rfl dX9_isMarked_45 (by decide) hf
    · refine v_aload_n 25 C dX9_isMarked_25 rfl rfl ?_
      refine v_getR 26 C lk_X9_22 (hB 0 _ rfl) (by decide) rfl dX9_isMarked_26 ?_
      refine v_iload 29 C dX9_isMarked_29 rfl ?_
      refine v_iald 31 C (hB 18 _ rfl) dX9_isMarked_31 hf (fun v1 hf => ?_)
      refine v_iload_n 32 C dX9_isMarked_32 rfl rfl ?_
      refine v_icmp_ne (tgt := 38) 33 C dX9_isMarked_33 (by decide) hf (fun hf => ?_) (fun hf => ?_)
      · refine v_iinc (v := x4 + 1) (lv' := [(0, .ref (E.2.1 (k))), (3, .int x3), (4, .int (x4 + 1))]) 38 C dX9_isMarked_38 rfl (by rfl) (by decide) rfl rfl ?_
        refine v_goto (tgt := 16) 41 C dX9_isMarked_41 (by decide) ?_
        exact Vx.lv [0, 1, 2] rfl (ih x3 (x4 + 1) σ hf)
      · refine v_iconst (v := 1) 36 C dX9_isMarked_36 (by decide) ?_
        exact v_zretN 37 C rfl dX9_isMarked_37 (by decide) hf
def f_X9_isMarked (k : Nat) (x1 : Int32) (x2 : Int32) (σ : Sg) : Rs := p_call (f_X1_codeOf (k + 1 + 1) x1 x2 σ) (fun v1 s2 => f_X9_isMarked_b16 k fu v1 0 s2)
set_option maxRecDepth 100000 in
set_option maxHeartbeats 4000000 in
theorem k_X9_isMarked_b0 {q : Mc} {E : En} {L : List Nat} {o : Int32 × Sg} (C : Cx q E L cX9_isMarked 5 RX9 (some .boolean) (3)) (k : Nat) (hB : Bk L sh_Work k) (x1 : Int32) (x2 : Int32) (σ : Sg) (hf : f_X9_isMarked k x1 x2 σ = some o) : Vx q E L 5 (some .boolean) o 0 [(0, .ref (E.2.1 (k))), (1, .int x1), (2, .int x2)] [] σ := by
  unfold f_X9_isMarked at hf
  refine v_aload_n 0 C dX9_isMarked_0 rfl rfl ?_
  refine v_getR 1 C lk_X9_12 (hB 0 _ rfl) (by decide) rfl dX9_isMarked_1 ?_
  refine v_getR 4 C lk_X9_65 ((hB.sub (sh' := sh_Game) 1 rfl) 0 _ rfl) (by decide) rfl dX9_isMarked_4 ?_
  refine v_iload_n 7 C dX9_isMarked_7 rfl rfl ?_
  refine v_iload_n 8 C dX9_isMarked_8 rfl rfl ?_
  refine v_callV (st := []) 9 C [.int x1, .int x2] lm_X9_126 ly_X1_codeOf (((hB.sub (sh' := sh_Game) 1 rfl).sub (sh' := sh_Cut) 1 rfl) 0 _ rfl) (by decide) dX9_isMarked_9 rfl (by decide) rfl (Nat.le_of_ble_eq_true rfl) (fun o1 h1 => m_X1_codeOf (k + 1 + 1) ((hB.sub (sh' := sh_Game) 1 rfl).sub (sh' := sh_Cut) 1 rfl) x1 x2 σ o1 h1) hf (fun v1 s2 hf => ?_)
  refine v_istore_n (lv' := [(0, .ref (E.2.1 (k))), (1, .int x1), (2, .int x2), (3, .int v1)]) 12 C dX9_isMarked_12 rfl (by decide) rfl rfl ?_
  refine v_iconst (v := 0) 13 C dX9_isMarked_13 (by decide) ?_
  refine v_istore (lv' := [(0, .ref (E.2.1 (k))), (1, .int x1), (2, .int x2), (3, .int v1), (4, .int 0)]) 14 C dX9_isMarked_14 (by decide) rfl rfl ?_
  exact Vx.lv [0, 3, 4] rfl (k_X9_isMarked_b16 C k hB fu v1 0 s2 hf)
theorem m_X9_isMarked {l : Launch} {E : En} {L : List Nat} (k : Nat) (hB : Bk L sh_Work k) (x1 : Int32) (x2 : Int32) (σ : Sg) (o : Int32 × Sg) (hf : f_X9_isMarked k x1 x2 σ = some o) : Mi l yX9_isMarked cX9_isMarked 5 (some .boolean) (3) E L [.ref (E.2.1 (k)), .int x1, .int x2] σ o :=
  Mi.of RX9 rfl (by decide) (Nat.le_of_ble_eq_true rfl) (fun q hq C => by subst hq; exact k_X9_isMarked_b0 C k hB x1 x2 σ hf)
def f_X9_isChosen_b62 (k : Nat) (σ : Sg) : Rs := some (1, σ)
set_option maxRecDepth 100000 in
set_option maxHeartbeats 4000000 in
theorem k_X9_isChosen_b62 {q : Mc} {E : En} {L : List Nat} {o : Int32 × Sg} (C : Cx q E L cX9_isChosen 4 RX9 (some .boolean) (2)) (k : Nat) (hB : Bk L sh_Work k) (σ : Sg) (hf : f_X9_isChosen_b62 k σ = some o) : Vx q E L 4 (some .boolean) o 62 [] [] σ := by
  unfold f_X9_isChosen_b62 at hf
  refine v_iconst (v := 1) 62 C dX9_isChosen_62 (by decide) ?_
  refine v_goto (tgt := 67) 63 C dX9_isChosen_63 (by decide) ?_
  exact v_zretN 67 C rfl dX9_isChosen_67 (by decide) hf
def f_X9_isChosen (k : Nat) (x1 : Int32) (x2 : Int32) (σ : Sg) : Rs := if (σ (k) 3) = 1 then (p_rd σ (k + 1 + 1 + 3) 16 x1 (fun v1 => if v1 = 0 then (p_rd σ (k + 1 + 1 + 3) 16 x2 (fun v2 => if v2 = 0 then (f_X9_isChosen_b62 k σ) else (some (0, σ)))) else (f_X9_isChosen_b62 k σ))) else (if (σ (k) 3) = 2 then (p_rd σ (k + 1 + 1 + 4) 16 x1 (fun v3 => p_rd σ (k + 1 + 1 + 4) 16 x2 (fun v4 => if v3 = v4 then (some (1, σ)) else (some (0, σ))))) else (if (σ (k) 3) = 3 then (p_call (f_X1_nubsOf (k + 1 + 1) x1 σ) (fun v5 s6 => p_call (f_X1_nubsOf (k + 1 + 1) x2 s6) (fun v7 s8 => if v5 = v7 then (some (1, s8)) else (some (0, s8))))) else (if (σ (k) 3) = 4 then (p_call (f_X1_nubsOf (k + 1 + 1) x1 σ) (fun v9 s10 => p_call (f_X1_nubsOf (k + 1 + 1) x2 s10) (fun v11 s12 => if v9 = v11 then (some (1, s12)) else (some (0, s12))))) else (some (1, σ)))))
set_option maxRecDepth 100000 in
set_option maxHeartbeats 4000000 in
theorem k_X9_isChosen_b0 {q : Mc} {E : En} {L : List Nat} {o : Int32 × Sg} (C : Cx q E L cX9_isChosen 4 RX9 (some .boolean) (2)) (k : Nat) (hB : Bk L sh_Work k) (x1 : Int32) (x2 : Int32) (σ : Sg) (hf : f_X9_isChosen k x1 x2 σ = some o) : Vx q E L 4 (some .boolean) o 0 [(0, .ref (E.2.1 (k))), (1, .int x1), (2, .int x2)] [] σ := by
  unfold f_X9_isChosen at hf
  refine v_aload_n 0 C dX9_isChosen_0 rfl rfl ?_
  refine v_getR 1 C lk_X9_12 (hB 0 _ rfl) (by decide) rfl dX9_isChosen_1 ?_
  refine v_getR 4 C lk_X9_65 ((hB.sub (sh' := sh_Game) 1 rfl) 0 _ rfl) (by decide) rfl dX9_isChosen_4 ?_
  refine v_astore_n (lv' := [(0, .ref (E.2.1 (k))), (1, .int x1), (2, .int x2), (3, .ref (E.2.1 (k + 1 + 1)))]) 7 C dX9_isChosen_7 rfl (by decide) rfl rfl ?_
  refine v_aload_n 8 C dX9_isChosen_8 rfl rfl ?_
  refine v_getI (dum := 0) 9 C lk_X9_58 (hB 0 _ rfl) (by decide) rfl dX9_isChosen_9 ?_
  refine v_case (v := 1) hf (fun hx hf => ?_) (fun hn0 hf => ?_)
  · refine v_tabIn (tgt := 44) 12 C hx dX9_isChosen_12 (by decide) rfl (by decide) ?_
    refine v_aload_n 44 C dX9_isChosen_44 rfl rfl ?_
    refine v_getR 45 C lk_X9_74 (((hB.sub (sh' := sh_Game) 1 rfl).sub (sh' := sh_Cut) 1 rfl) 0 _ rfl) (by decide) rfl dX9_isChosen_45 ?_
    refine v_iload_n 48 C dX9_isChosen_48 rfl rfl ?_
    refine v_zald 49 C (((hB.sub (sh' := sh_Game) 1 rfl).sub (sh' := sh_Cut) 1 rfl) 3 _ rfl) dX9_isChosen_49 hf (fun v1 hf => ?_)
    refine v_if_ne (tgt := 62) 50 C dX9_isChosen_50 (by decide) hf (fun hf => ?_) (fun hf => ?_)
    · exact Vx.lv [] rfl (k_X9_isChosen_b62 C k hB σ hf)
    · refine v_aload_n 53 C dX9_isChosen_53 rfl rfl ?_
      refine v_getR 54 C lk_X9_74 (((hB.sub (sh' := sh_Game) 1 rfl).sub (sh' := sh_Cut) 1 rfl) 0 _ rfl) (by decide) rfl dX9_isChosen_54 ?_
      refine v_iload_n 57 C dX9_isChosen_57 rfl rfl ?_
      refine v_zald 58 C (((hB.sub (sh' := sh_Game) 1 rfl).sub (sh' := sh_Cut) 1 rfl) 3 _ rfl) dX9_isChosen_58 hf (fun v2 hf => ?_)
      refine v_if_ne (tgt := 66) 59 C dX9_isChosen_59 (by decide) hf (fun hf => ?_) (fun hf => ?_)
      · refine v_iconst (v := 0) 66 C dX9_isChosen_66 (by decide) ?_
        exact v_zretN 67 C rfl dX9_isChosen_67 (by decide) hf
      · exact Vx.lv [] rfl (k_X9_isChosen_b62 C k hB σ hf)
  refine v_case (v := 2) hf (fun hx hf => ?_) (fun hn1 hf => ?_)
  · refine v_tabIn (tgt := 68) 12 C hx dX9_isChosen_12 (by decide) rfl (by decide) ?_
    refine v_aload_n 68 C dX9_isChosen_68 rfl rfl ?_
    refine v_getR 69 C lk_X9_119 (((hB.sub (sh' := sh_Game) 1 rfl).sub (sh' := sh_Cut) 1 rfl) 0 _ rfl) (by decide) rfl dX9_isChosen_69 ?_
    refine v_iload_n 72 C dX9_isChosen_72 rfl rfl ?_
    refine v_iald 73 C (((hB.sub (sh' := sh_Game) 1 rfl).sub (sh' := sh_Cut) 1 rfl) 4 _ rfl) dX9_isChosen_73 hf (fun v3 hf => ?_)
    refine v_aload_n 74 C dX9_isChosen_74 rfl rfl ?_
    refine v_getR 75 C lk_X9_119 (((hB.sub (sh' := sh_Game) 1 rfl).sub (sh' := sh_Cut) 1 rfl) 0 _ rfl) (by decide) rfl dX9_isChosen_75 ?_
    refine v_iload_n 78 C dX9_isChosen_78 rfl rfl ?_
    refine v_iald 79 C (((hB.sub (sh' := sh_Game) 1 rfl).sub (sh' := sh_Cut) 1 rfl) 4 _ rfl) dX9_isChosen_79 hf (fun v4 hf => ?_)
    refine v_icmp_ne (tgt := 87) 80 C dX9_isChosen_80 (by decide) hf (fun hf => ?_) (fun hf => ?_)
    · refine v_iconst (v := 0) 87 C dX9_isChosen_87 (by decide) ?_
      exact v_zretN 88 C rfl dX9_isChosen_88 (by decide) hf
    · refine v_iconst (v := 1) 83 C dX9_isChosen_83 (by decide) ?_
      refine v_goto (tgt := 88) 84 C dX9_isChosen_84 (by decide) ?_
      exact v_zretN 88 C rfl dX9_isChosen_88 (by decide) hf
  refine v_case (v := 3) hf (fun hx hf => ?_) (fun hn2 hf => ?_)
  · refine v_tabIn (tgt := 89) 12 C hx dX9_isChosen_12 (by decide) rfl (by decide) ?_
    refine v_aload_n 89 C dX9_isChosen_89 rfl rfl ?_
    refine v_iload_n 90 C dX9_isChosen_90 rfl rfl ?_
    refine v_callV (st := []) 91 C [.int x1] lm_X9_122 ly_X1_nubsOf (((hB.sub (sh' := sh_Game) 1 rfl).sub (sh' := sh_Cut) 1 rfl) 0 _ rfl) (by decide) dX9_isChosen_91 rfl (by decide) rfl (Nat.le_of_ble_eq_true rfl) (fun o1 h1 => m_X1_nubsOf (k + 1 + 1) ((hB.sub (sh' := sh_Game) 1 rfl).sub (sh' := sh_Cut) 1 rfl) x1 σ o1 h1) hf (fun v5 s6 hf => ?_)
    refine v_aload_n 94 C dX9_isChosen_94 rfl rfl ?_
    refine v_iload_n 95 C dX9_isChosen_95 rfl rfl ?_
    refine v_callV (st := [.int v5]) 96 C [.int x2] lm_X9_122 ly_X1_nubsOf (((hB.sub (sh' := sh_Game) 1 rfl).sub (sh' := sh_Cut) 1 rfl) 0 _ rfl) (by decide) dX9_isChosen_96 rfl (by decide) rfl (Nat.le_of_ble_eq_true rfl) (fun o1 h1 => m_X1_nubsOf (k + 1 + 1) ((hB.sub (sh' := sh_Game) 1 rfl).sub (sh' := sh_Cut) 1 rfl) x2 s6 o1 h1) hf (fun v7 s8 hf => ?_)
    refine v_icmp_ne (tgt := 106) 99 C dX9_isChosen_99 (by decide) hf (fun hf => ?_) (fun hf => ?_)
    · refine v_iconst (v := 0) 106 C dX9_isChosen_106 (by decide) ?_
      exact v_zretN 107 C rfl dX9_isChosen_107 (by decide) hf
    · refine v_iconst (v := 1) 102 C dX9_isChosen_102 (by decide) ?_
      refine v_goto (tgt := 107) 103 C dX9_isChosen_103 (by decide) ?_
      exact v_zretN 107 C rfl dX9_isChosen_107 (by decide) hf
  refine v_case (v := 4) hf (fun hx hf => ?_) (fun hn3 hf => ?_)
  · refine v_tabIn (tgt := 89) 12 C hx dX9_isChosen_12 (by decide) rfl (by decide) ?_
    refine v_aload_n 89 C dX9_isChosen_89 rfl rfl ?_
    refine v_iload_n 90 C dX9_isChosen_90 rfl rfl ?_
    refine v_callV (st := []) 91 C [.int x1] lm_X9_122 ly_X1_nubsOf (((hB.sub (sh' := sh_Game) 1 rfl).sub (sh' := sh_Cut) 1 rfl) 0 _ rfl) (by decide) dX9_isChosen_91 rfl (by decide) rfl (Nat.le_of_ble_eq_true rfl) (fun o1 h1 => m_X1_nubsOf (k + 1 + 1) ((hB.sub (sh' := sh_Game) 1 rfl).sub (sh' := sh_Cut) 1 rfl) x1 σ o1 h1) hf (fun v9 s10 hf => ?_)
    refine v_aload_n 94 C dX9_isChosen_94 rfl rfl ?_
    refine v_iload_n 95 C dX9_isChosen_95 rfl rfl ?_
    refine v_callV (st := [.int v9]) 96 C [.int x2] lm_X9_122 ly_X1_nubsOf (((hB.sub (sh' := sh_Game) 1 rfl).sub (sh' := sh_Cut) 1 rfl) 0 _ rfl) (by decide) dX9_isChosen_96 rfl (by decide) rfl (Nat.le_of_ble_eq_true rfl) (fun o1 h1 => m_X1_nubsOf (k + 1 + 1) ((hB.sub (sh' := sh_Game) 1 rfl).sub (sh' := sh_Cut) 1 rfl) x2 s10 o1 h1) hf (fun v11 s12 hf => ?_)
    refine v_icmp_ne (tgt := 106) 99 C dX9_isChosen_99 (by decide) hf (fun hf => ?_) (fun hf => ?_)
    · refine v_iconst (v := 0) 106 C dX9_isChosen_106 (by decide) ?_
      exact v_zretN 107 C rfl dX9_isChosen_107 (by decide) hf
    · refine v_iconst (v := 1) 102 C dX9_isChosen_102 (by decide) ?_
      refine v_goto (tgt := 107) 103 C dX9_isChosen_103 (by decide) ?_
      exact v_zretN 107 C rfl dX9_isChosen_107 (by decide) hf
  refine v_tabOut (tgt := 108) 12 C dX9_isChosen_12 (by have g0 := lv_neT hn0 (show (1 : Int32).toInt = 1 from rfl); have g1 := lv_neT hn1 (show (2 : Int32).toInt = 2 from rfl); have g2 := lv_neT hn2 (show (3 : Int32).toInt = 3 from rfl); have g3 := lv_neT hn3 (show (4 : Int32).toInt = 4 from rfl); omega) (by decide) ?_
  refine v_iconst (v := 1) 108 C dX9_isChosen_108 (by decide) ?_
  exact v_zretN 109 C rfl dX9_isChosen_109 (by decide) hf
theorem m_X9_isChosen {l : Launch} {E : En} {L : List Nat} (k : Nat) (hB : Bk L sh_Work k) (x1 : Int32) (x2 : Int32) (σ : Sg) (o : Int32 × Sg) (hf : f_X9_isChosen k x1 x2 σ = some o) : Mi l yX9_isChosen cX9_isChosen 4 (some .boolean) (2) E L [.ref (E.2.1 (k)), .int x1, .int x2] σ o :=
  Mi.of RX9 rfl (by decide) (Nat.le_of_ble_eq_true rfl) (fun q hq C => by subst hq; exact k_X9_isChosen_b0 C k hB x1 x2 σ hf)
def f_X9_fillCell_b181 (k : Nat) (r10 : Int32 → Int32 → Int32 → Int32 → Sg → Rs) (x1 : Int32) (x2 : Int32) (x3 : Int32) (x4 : Int32) (σ : Sg) : Rs := r10 x1 x2 x3 (x4 + 1) σ
set_option maxRecDepth 100000 in
set_option maxHeartbeats 4000000 in
theorem k_X9_fillCell_b181 {q : Mc} {E : En} {L : List Nat} {o : Int32 × Sg} (C : Cx q E L cX9_fillCell 7 RX9 (some .int) (4)) (k : Nat) (hB : Bk L sh_Work k) (r10 : Int32 → Int32 → Int32 → Int32 → Sg → Rs) (hr10 : ∀ (x1 : Int32) (x2 : Int32) (x3 : Int32) (x4 : Int32) (σ : Sg), r10 x1 x2 x3 x4 σ = some o → Vx q E L 7 (some .int) o 10 [(0, .ref (E.2.1 (k))), (1, .int x1), (2, .int x2), (3, .int x3), (4, .int x4)] [] σ) (x1 : Int32) (x2 : Int32) (x3 : Int32) (x4 : Int32) (σ : Sg) (hf : f_X9_fillCell_b181 k r10 x1 x2 x3 x4 σ = some o) : Vx q E L 7 (some .int) o 181 [(0, .ref (E.2.1 (k))), (1, .int x1), (2, .int x2), (3, .int x3), (4, .int x4)] [] σ := by
  unfold f_X9_fillCell_b181 at hf
  refine v_iinc (v := x4 + 1) (lv' := [(0, .ref (E.2.1 (k))), (1, .int x1), (2, .int x2), (3, .int x3), (4, .int (x4 + 1))]) 181 C dX9_fillCell_181 rfl (by rfl) (by decide) rfl rfl ?_
  refine v_goto (tgt := 10) 184 C dX9_fillCell_184 (by decide) ?_
  exact Vx.lv [0, 1, 2, 3, 4] rfl (hr10 x1 x2 x3 (x4 + 1) σ hf)
def f_X9_fillCell_b175 (k : Nat) (r10 : Int32 → Int32 → Int32 → Int32 → Sg → Rs) (r56 : Int32 → Int32 → Int32 → Int32 → Int32 → Sg → Rs) (x1 : Int32) (x2 : Int32) (x3 : Int32) (x4 : Int32) (x5 : Int32) (σ : Sg) : Rs := r56 x1 x2 x3 x4 (x5 + 1) σ
set_option maxRecDepth 100000 in
set_option maxHeartbeats 4000000 in
theorem k_X9_fillCell_b175 {q : Mc} {E : En} {L : List Nat} {o : Int32 × Sg} (C : Cx q E L cX9_fillCell 7 RX9 (some .int) (4)) (k : Nat) (hB : Bk L sh_Work k) (r10 : Int32 → Int32 → Int32 → Int32 → Sg → Rs) (hr10 : ∀ (x1 : Int32) (x2 : Int32) (x3 : Int32) (x4 : Int32) (σ : Sg), r10 x1 x2 x3 x4 σ = some o → Vx q E L 7 (some .int) o 10 [(0, .ref (E.2.1 (k))), (1, .int x1), (2, .int x2), (3, .int x3), (4, .int x4)] [] σ) (r56 : Int32 → Int32 → Int32 → Int32 → Int32 → Sg → Rs) (hr56 : ∀ (x1 : Int32) (x2 : Int32) (x3 : Int32) (x4 : Int32) (x5 : Int32) (σ : Sg), r56 x1 x2 x3 x4 x5 σ = some o → Vx q E L 7 (some .int) o 56 [(0, .ref (E.2.1 (k))), (1, .int x1), (2, .int x2), (3, .int x3), (4, .int x4), (5, .int x5)] [] σ) (x1 : Int32) (x2 : Int32) (x3 : Int32) (x4 : Int32) (x5 : Int32) (σ : Sg) (hf : f_X9_fillCell_b175 k r10 r56 x1 x2 x3 x4 x5 σ = some o) : Vx q E L 7 (some .int) o 175 [(0, .ref (E.2.1 (k))), (1, .int x1), (2, .int x2), (3, .int x3), (4, .int x4), (5, .int x5)] [] σ := by
  unfold f_X9_fillCell_b175 at hf
  refine v_iinc (v := x5 + 1) (lv' := [(0, .ref (E.2.1 (k))), (1, .int x1), (2, .int x2), (3, .int x3), (4, .int x4), (5, .int (x5 + 1))]) 175 C dX9_fillCell_175 rfl (by rfl) (by decide) rfl rfl ?_
  refine v_goto (tgt := 56) 178 C dX9_fillCell_178 (by decide) ?_
  exact Vx.lv [0, 1, 2, 3, 4, 5] rfl (hr56 x1 x2 x3 x4 (x5 + 1) σ hf)
def f_X9_fillCell_b153 (k : Nat) (r10 : Int32 → Int32 → Int32 → Int32 → Sg → Rs) (r56 : Int32 → Int32 → Int32 → Int32 → Int32 → Sg → Rs) (x1 : Int32) (x2 : Int32) (x3 : Int32) (x4 : Int32) (x5 : Int32) (x6 : Int32) (σ : Sg) : Rs := if (σ (k) 3) = 4 then (if x6 < 3 then (f_X9_fillCell_b175 k r10 r56 x1 x2 x3 x4 x5 σ) else (p_call (f_X9_mark k x4 x5 σ) (fun v1 s2 => f_X9_fillCell_b175 k r10 r56 x1 x2 x3 x4 x5 s2))) else (f_X9_fillCell_b175 k r10 r56 x1 x2 x3 x4 x5 σ)
set_option maxRecDepth 100000 in
set_option maxHeartbeats 4000000 in
theorem k_X9_fillCell_b153 {q : Mc} {E : En} {L : List Nat} {o : Int32 × Sg} (C : Cx q E L cX9_fillCell 7 RX9 (some .int) (4)) (k : Nat) (hB : Bk L sh_Work k) (r10 : Int32 → Int32 → Int32 → Int32 → Sg → Rs) (hr10 : ∀ (x1 : Int32) (x2 : Int32) (x3 : Int32) (x4 : Int32) (σ : Sg), r10 x1 x2 x3 x4 σ = some o → Vx q E L 7 (some .int) o 10 [(0, .ref (E.2.1 (k))), (1, .int x1), (2, .int x2), (3, .int x3), (4, .int x4)] [] σ) (r56 : Int32 → Int32 → Int32 → Int32 → Int32 → Sg → Rs) (hr56 : ∀ (x1 : Int32) (x2 : Int32) (x3 : Int32) (x4 : Int32) (x5 : Int32) (σ : Sg), r56 x1 x2 x3 x4 x5 σ = some o → Vx q E L 7 (some .int) o 56 [(0, .ref (E.2.1 (k))), (1, .int x1), (2, .int x2), (3, .int x3), (4, .int x4), (5, .int x5)] [] σ) (x1 : Int32) (x2 : Int32) (x3 : Int32) (x4 : Int32) (x5 : Int32) (x6 : Int32) (σ : Sg) (hf : f_X9_fillCell_b153 k r10 r56 x1 x2 x3 x4 x5 x6 σ = some o) : Vx q E L 7 (some .int) o 153 [(0, .ref (E.2.1 (k))), (1, .int x1), (2, .int x2), (3, .int x3), (4, .int x4), (5, .int x5), (6, .int x6)] [] σ := by
  unfold f_X9_fillCell_b153 at hf
  refine v_aload_n 153 C dX9_fillCell_153 rfl rfl ?_
  refine v_getI (dum := 0) 154 C lk_X9_58 (hB 0 _ rfl) (by decide) rfl dX9_fillCell_154 ?_
  refine v_iconst (v := 4) 157 C dX9_fillCell_157 (by decide) ?_
  refine v_icmp_ne (tgt := 175) 158 C dX9_fillCell_158 (by decide) hf (fun hf => ?_) (fun hf => ?_)
  · exact Vx.lv [0, 1, 2, 3, 4, 5] rfl (k_X9_fillCell_b175 C k hB r10 hr10 r56 hr56 x1 x2 x3 x4 x5 σ hf)
  · refine v_iload 161 C dX9_fillCell_161 rfl ?_
    refine v_iconst (v := 3) 163 C dX9_fillCell_163 (by decide) ?_
    refine v_icmp_lt (tgt := 175) 164 C dX9_fillCell_164 (by decide) hf (fun hf => ?_) (fun hf => ?_)
    · exact Vx.lv [0, 1, 2, 3, 4, 5] rfl (k_X9_fillCell_b175 C k hB r10 hr10 r56 hr56 x1 x2 x3 x4 x5 σ hf)
    · refine v_aload_n 167 C dX9_fillCell_167 rfl rfl ?_
      refine v_iload 168 C dX9_fillCell_168 rfl ?_
      refine v_iload 170 C dX9_fillCell_170 rfl ?_
      refine v_callV (st := []) 172 C [.int x4, .int x5] lm_X9_115 ly_X9_mark (hB 0 _ rfl) (by decide) dX9_fillCell_172 rfl (by decide) rfl (Nat.le_of_ble_eq_true rfl) (fun o1 h1 => m_X9_mark k hB x4 x5 σ o1 h1) hf (fun v1 s2 hf => ?_)
      exact Vx.lv [0, 1, 2, 3, 4, 5] rfl (k_X9_fillCell_b175 C k hB r10 hr10 r56 hr56 x1 x2 x3 x4 x5 s2 hf)
def f_X9_fillCell_b84 (k : Nat) (r10 : Int32 → Int32 → Int32 → Int32 → Sg → Rs) (r56 : Int32 → Int32 → Int32 → Int32 → Int32 → Sg → Rs) (x1 : Int32) (x2 : Int32) (x3 : Int32) (x4 : Int32) (x5 : Int32) (σ : Sg) : Rs := p_call (f_X1_kindOf (k + 1 + 1) (k + 1 + 6) x4 x5 x2 σ) (fun v1 s2 => p_call (f_X3_costOf (k + 1) x1 x4 x2 v1 s2) (fun v3 s4 => if x4 = x2 then (if x5 = 0 then (p_call (f_X0_put (k + 1 + 6) x2 x4 x5 x1 s4) (fun v5 s6 => some (x3 + v3, s6))) else (f_X9_fillCell_b153 k r10 r56 x1 x2 (x3 + v3) x4 x5 v1 s4)) else (f_X9_fillCell_b153 k r10 r56 x1 x2 (x3 + v3) x4 x5 v1 s4)))
set_option maxRecDepth 100000 in
set_option maxHeartbeats 4000000 in
theorem k_X9_fillCell_b84 {q : Mc} {E : En} {L : List Nat} {o : Int32 × Sg} (C : Cx q E L cX9_fillCell 7 RX9 (some .int) (4)) (k : Nat) (hB : Bk L sh_Work k) (r10 : Int32 → Int32 → Int32 → Int32 → Sg → Rs) (hr10 : ∀ (x1 : Int32) (x2 : Int32) (x3 : Int32) (x4 : Int32) (σ : Sg), r10 x1 x2 x3 x4 σ = some o → Vx q E L 7 (some .int) o 10 [(0, .ref (E.2.1 (k))), (1, .int x1), (2, .int x2), (3, .int x3), (4, .int x4)] [] σ) (r56 : Int32 → Int32 → Int32 → Int32 → Int32 → Sg → Rs) (hr56 : ∀ (x1 : Int32) (x2 : Int32) (x3 : Int32) (x4 : Int32) (x5 : Int32) (σ : Sg), r56 x1 x2 x3 x4 x5 σ = some o → Vx q E L 7 (some .int) o 56 [(0, .ref (E.2.1 (k))), (1, .int x1), (2, .int x2), (3, .int x3), (4, .int x4), (5, .int x5)] [] σ) (x1 : Int32) (x2 : Int32) (x3 : Int32) (x4 : Int32) (x5 : Int32) (σ : Sg) (hf : f_X9_fillCell_b84 k r10 r56 x1 x2 x3 x4 x5 σ = some o) : Vx q E L 7 (some .int) o 84 [(0, .ref (E.2.1 (k))), (1, .int x1), (2, .int x2), (3, .int x3), (4, .int x4), (5, .int x5)] [] σ := by
  unfold f_X9_fillCell_b84 at hf
  refine v_aload_n 84 C dX9_fillCell_84 rfl rfl ?_
  refine v_getR 85 C lk_X9_12 (hB 0 _ rfl) (by decide) rfl dX9_fillCell_85 ?_
  refine v_getR 88 C lk_X9_65 ((hB.sub (sh' := sh_Game) 1 rfl) 0 _ rfl) (by decide) rfl dX9_fillCell_88 ?_
  refine v_aload_n 91 C dX9_fillCell_91 rfl rfl ?_
  refine v_getR 92 C lk_X9_12 (hB 0 _ rfl) (by decide) rfl dX9_fillCell_92 ?_
  refine v_getR 95 C lk_X9_29 ((hB.sub (sh' := sh_Game) 1 rfl) 0 _ rfl) (by decide) rfl dX9_fillCell_95 ?_
  refine v_iload 98 C dX9_fillCell_98 rfl ?_
  refine v_iload 100 C dX9_fillCell_100 rfl ?_
  refine v_iload_n 102 C dX9_fillCell_102 rfl rfl ?_
  refine v_callV (st := []) 103 C [.ref (E.2.1 (k + 1 + 6)), .int x4, .int x5, .int x2] lm_X9_103 ly_X1_kindOf (((hB.sub (sh' := sh_Game) 1 rfl).sub (sh' := sh_Cut) 1 rfl) 0 _ rfl) (by decide) dX9_fillCell_103 rfl (by decide) rfl (Nat.le_of_ble_eq_true rfl) (fun o1 h1 => m_X1_kindOf (k + 1 + 1) (k + 1 + 6) ((hB.sub (sh' := sh_Game) 1 rfl).sub (sh' := sh_Cut) 1 rfl) ((hB.sub (sh' := sh_Game) 1 rfl).sub (sh' := sh_Board) 6 rfl) x4 x5 x2 σ o1 h1) hf (fun v1 s2 hf => ?_)
  refine v_istore (lv' := [(0, .ref (E.2.1 (k))), (1, .int x1), (2, .int x2), (3, .int x3), (4, .int x4), (5, .int x5), (6, .int v1)]) 106 C dX9_fillCell_106 (by decide) rfl rfl ?_
  refine v_iload_n 108 C dX9_fillCell_108 rfl rfl ?_
  refine v_aload_n 109 C dX9_fillCell_109 rfl rfl ?_
  refine v_getR 110 C lk_X9_12 (hB 0 _ rfl) (by decide) rfl dX9_fillCell_110 ?_
  refine v_iload_n 113 C dX9_fillCell_113 rfl rfl ?_
  refine v_iload 114 C dX9_fillCell_114 rfl ?_
  refine v_iload_n 116 C dX9_fillCell_116 rfl rfl ?_
  refine v_iload 117 C dX9_fillCell_117 rfl ?_
  refine v_callV (st := [.int x3]) 119 C [.int x1, .int x4, .int x2, .int v1] lm_X9_107 ly_X3_costOf ((hB.sub (sh' := sh_Game) 1 rfl) 0 _ rfl) (by decide) dX9_fillCell_119 rfl (by decide) rfl (Nat.le_of_ble_eq_true rfl) (fun o1 h1 => m_X3_costOf (k + 1) (hB.sub (sh' := sh_Game) 1 rfl) x1 x4 x2 v1 s2 o1 h1) hf (fun v3 s4 hf => ?_)
  refine v_iadd 122 C dX9_fillCell_122 ?_
  refine v_istore_n (lv' := [(0, .ref (E.2.1 (k))), (1, .int x1), (2, .int x2), (3, .int (x3 + v3)), (4, .int x4), (5, .int x5), (6, .int v1)]) 123 C dX9_fillCell_123 rfl (by decide) rfl rfl ?_
  refine v_iload 124 C dX9_fillCell_124 rfl ?_
  refine v_iload_n 126 C dX9_fillCell_126 rfl rfl ?_
  refine v_icmp_ne (tgt := 153) 127 C dX9_fillCell_127 (by decide) hf (fun hf => ?_) (fun hf => ?_)
  · exact Vx.lv [0, 1, 2, 3, 4, 5, 6] rfl (k_X9_fillCell_b153 C k hB r10 hr10 r56 hr56 x1 x2 (x3 + v3) x4 x5 v1 s4 hf)
  · refine v_iload 130 C dX9_fillCell_130 rfl ?_
    refine v_if_ne (tgt := 153) 132 C dX9_fillCell_132 (by decide) hf (fun hf => ?_) (fun hf => ?_)
    · exact Vx.lv [0, 1, 2, 3, 4, 5, 6] rfl (k_X9_fillCell_b153 C k hB r10 hr10 r56 hr56 x1 x2 (x3 + v3) x4 x5 v1 s4 hf)
    · refine v_aload_n 135 C dX9_fillCell_135 rfl rfl ?_
      refine v_getR 136 C lk_X9_12 (hB 0 _ rfl) (by decide) rfl dX9_fillCell_136 ?_
      refine v_getR 139 C lk_X9_29 ((hB.sub (sh' := sh_Game) 1 rfl) 0 _ rfl) (by decide) rfl dX9_fillCell_139 ?_
      refine v_iload_n 142 C dX9_fillCell_142 rfl rfl ?_
      refine v_iload 143 C dX9_fillCell_143 rfl ?_
      refine v_iload 145 C dX9_fillCell_145 rfl ?_
      refine v_iload_n 147 C dX9_fillCell_147 rfl rfl ?_
      refine v_callV (st := []) 148 C [.int x2, .int x4, .int x5, .int x1] lm_X9_111 ly_X0_put (((hB.sub (sh' := sh_Game) 1 rfl).sub (sh' := sh_Board) 6 rfl) 0 _ rfl) (by decide) dX9_fillCell_148 rfl (by decide) rfl (Nat.le_of_ble_eq_true rfl) (fun o1 h1 => m_X0_put (k + 1 + 6) ((hB.sub (sh' := sh_Game) 1 rfl).sub (sh' := sh_Board) 6 rfl) x2 x4 x5 x1 s4 o1 h1) hf (fun v5 s6 hf => ?_)
      refine v_iload_n 151 C dX9_fillCell_151 rfl rfl ?_
      exact v_iret 152 C rfl dX9_fillCell_152 hf
def f_X9_fillCell_b56 (k : Nat) (r10 : Int32 → Int32 → Int32 → Int32 → Sg → Rs) : Nat → Int32 → Int32 → Int32 → Int32 → Int32 → Sg → Rs
  | 0, _, _, _, _, _, _ => none
  | n + 1, x1, x2, x3, x4, x5, σ => if 4 ≤ x5 then (f_X9_fillCell_b181 k r10 x1 x2 x3 x4 σ) else (if (σ (k) 3) = 4 then (p_call (f_X9_isMarked k x4 x5 σ) (fun v1 s2 => if v1 = 0 then (f_X9_fillCell_b84 k r10 (f_X9_fillCell_b56 k r10 n) x1 x2 x3 x4 x5 s2) else (f_X9_fillCell_b175 k r10 (f_X9_fillCell_b56 k r10 n) x1 x2 x3 x4 x5 s2))) else (f_X9_fillCell_b84 k r10 (f_X9_fillCell_b56 k r10 n) x1 x2 x3 x4 x5 σ))
set_option maxRecDepth 100000 in
set_option maxHeartbeats 4000000 in
theorem k_X9_fillCell_b56 {q : Mc} {E : En} {L : List Nat} {o : Int32 × Sg} (C : Cx q E L cX9_fillCell 7 RX9 (some .int) (4)) (k : Nat) (hB : Bk L sh_Work k) (r10 : Int32 → Int32 → Int32 → Int32 → Sg → Rs) (hr10 : ∀ (x1 : Int32) (x2 : Int32) (x3 : Int32) (x4 : Int32) (σ : Sg), r10 x1 x2 x3 x4 σ = some o → Vx q E L 7 (some .int) o 10 [(0, .ref (E.2.1 (k))), (1, .int x1), (2, .int x2), (3, .int x3), (4, .int x4)] [] σ) (n : Nat) : ∀ (x1 : Int32) (x2 : Int32) (x3 : Int32) (x4 : Int32) (x5 : Int32) (σ : Sg), f_X9_fillCell_b56 k r10 n x1 x2 x3 x4 x5 σ = some o → Vx q E L 7 (some .int) o 56 [(0, .ref (E.2.1 (k))), (1, .int x1), (2, .int x2), (3, .int x3), (4, .int x4), (5, .int x5)] [] σ := by
  induction n with
  | zero => intro x1 x2 x3 x4 x5 σ hf; cases (show (none : Rs) = some o from hf)
  | succ n ih =>
    intro x1 x2 x3 x4 x5 σ hf
    rw [f_X9_fillCell_b56] at hf
    refine v_iload 56 C dX9_fillCell_56 rfl ?_
    refine v_iconst (v := 4) 58 C dX9_fillCell_58 (by decide) ?_
    refine v_icmp_ge (tgt := 181) 59 C dX9_fillCell_59 (by decide) hf (fun hf => ?_) (fun hf => ?_)
    · exact Vx.lv [0, 1, 2, 3, 4] rfl (k_X9_fillCell_b181 C k hB r10 hr10 x1 x2 x3 x4 σ hf)
    · refine v_aload_n 62 C dX9_fillCell_62 rfl rfl ?_
      refine v_getI (dum := 0) 63 C lk_X9_58 (hB 0 _ rfl) (by decide) rfl dX9_fillCell_63 ?_
      refine v_iconst (v := 4) 66 C dX9_fillCell_66 (by decide) ?_
      refine v_icmp_ne (tgt := 84) 67 C dX9_fillCell_67 (by decide) hf (fun hf => ?_) (fun hf => ?_)
      · exact Vx.lv [0, 1, 2, 3, 4, 5] rfl (k_X9_fillCell_b84 C k hB r10 hr10 (f_X9_fillCell_b56 k r10 n) ih x1 x2 x3 x4 x5 σ hf)
      · refine v_aload_n 70 C dX9_fillCell_70 rfl rfl ?_
        refine v_iload 71 C dX9_fillCell_71 rfl ?_
        refine v_iload 73 C dX9_fillCell_73 rfl ?_
        refine v_callV (st := []) 75 C [.int x4, .int x5] lm_X9_100 ly_X9_isMarked (hB 0 _ rfl) (by decide) dX9_fillCell_75 rfl (by decide) rfl (Nat.le_of_ble_eq_true rfl) (fun o1 h1 => m_X9_isMarked k hB x4 x5 σ o1 h1) hf (fun v1 s2 hf => ?_)
        refine v_if_eq (tgt := 84) 78 C dX9_fillCell_78 (by decide) hf (fun hf => ?_) (fun hf => ?_)
        · exact Vx.lv [0, 1, 2, 3, 4, 5] rfl (k_X9_fillCell_b84 C k hB r10 hr10 (f_X9_fillCell_b56 k r10 n) ih x1 x2 x3 x4 x5 s2 hf)
        · refine v_goto (tgt := 175) 81 C dX9_fillCell_81 (by decide) ?_
          exact Vx.lv [0, 1, 2, 3, 4, 5] rfl (k_X9_fillCell_b175 C k hB r10 hr10 (f_X9_fillCell_b56 k r10 n) ih x1 x2 x3 x4 x5 s2 hf)
def f_X9_fillCell_b10 (k : Nat)  : Nat → Int32 → Int32 → Int32 → Int32 → Sg → Rs
  | 0, _, _, _, _, _ => none
  | n + 1, x1, x2, x3, x4, σ => if (σ (k + 1 + 1) 2) ≤ x4 then (some (x3, σ)) else (p_call (f_X0_isAway (k + 1 + 6) x4 σ) (fun v1 s2 => if v1 = 0 then (p_call (f_X9_isChosen k x4 x2 s2) (fun v3 s4 => if v3 = 0 then (f_X9_fillCell_b181 k (f_X9_fillCell_b10 k n) x1 x2 x3 x4 s4) else (f_X9_fillCell_b56 k (f_X9_fillCell_b10 k n) fu x1 x2 x3 x4 0 s4))) else (f_X9_fillCell_b181 k (f_X9_fillCell_b10 k n) x1 x2 x3 x4 s2)))
set_option maxRecDepth 100000 in
set_option maxHeartbeats 4000000 in
theorem k_X9_fillCell_b10 {q : Mc} {E : En} {L : List Nat} {o : Int32 × Sg} (C : Cx q E L cX9_fillCell 7 RX9 (some .int) (4)) (k : Nat) (hB : Bk L sh_Work k) (n : Nat) : ∀ (x1 : Int32) (x2 : Int32) (x3 : Int32) (x4 : Int32) (σ : Sg), f_X9_fillCell_b10 k n x1 x2 x3 x4 σ = some o → Vx q E L 7 (some .int) o 10 [(0, .ref (E.2.1 (k))), (1, .int x1), (2, .int x2), (3, .int x3), (4, .int x4)] [] σ := by
  induction n with
  | zero => intro x1 x2 x3 x4 σ hf; cases (show (none : Rs) = some o from hf)
  | succ n ih =>
    intro x1 x2 x3 x4 σ hf
    rw [f_X9_fillCell_b10] at hf
    refine v_iload 10 C dX9_fillCell_10 rfl ?_
    refine v_aload_n 12 C dX9_fillCell_12 rfl rfl ?_
    refine v_getR 13 C lk_X9_12 (hB 0 _ rfl) (by decide) rfl dX9_fillCell_13 ?_
    refine v_getR 16 C lk_X9_65 ((hB.sub (sh' := sh_Game) 1 rfl) 0 _ rfl) (by decide) rfl dX9_fillCell_16 ?_
    refine v_getI (dum := 0) 19 C lk_X9_69 (((hB.sub (sh' := sh_Game) 1 rfl).sub (sh' := sh_Cut) 1 rfl) 0 _ rfl) (by decide) rfl dX9_fillCell_19 ?_
    refine v_icmp_ge (tgt := 187) 22 C dX9_fillCell_22 (by decide) hf (fun hf => ?_) (fun hf => ?_)
    · refine v_iload_n 187 C dX9_fillCell_187 rfl rfl ?_
      exact v_iret 188 C rfl dX9_fillCell_188 hf
    · refine v_aload_n 25 C dX9_fillCell_25 rfl rfl ?_
      refine v_getR 26 C lk_X9_12 (hB 0 _ rfl) (by decide) rfl dX9_fillCell_26 ?_
      refine v_getR 29 C lk_X9_29 ((hB.sub (sh' := sh_Game) 1 rfl) 0 _ rfl) (by decide) rfl dX9_fillCell_29 ?_
      refine v_iload 32 C dX9_fillCell_32 rfl ?_
      refine v_callV (st := []) 34 C [.int x4] lm_X9_84 ly_X0_isAway (((hB.sub (sh' := sh_Game) 1 rfl).sub (sh' := sh_Board) 6 rfl) 0 _ rfl) (by decide) dX9_fillCell_34 rfl (by decide) rfl (Nat.le_of_ble_eq_true rfl) (fun o1 h1 => m_X0_isAway (k + 1 + 6) ((hB.sub (sh' := sh_Game) 1 rfl).sub (sh' := sh_Board) 6 rfl) x4 σ o1 h1) hf (fun v1 s2 hf => ?_)
      refine v_if_ne (tgt := 181) 37 C dX9_fillCell_37 (by decide) hf (fun hf => ?_) (fun hf => ?_)
      · exact Vx.lv [0, 1, 2, 3, 4] rfl (k_X9_fillCell_b181 C k hB (f_X9_fillCell_b10 k n) ih x1 x2 x3 x4 s2 hf)
      · refine v_aload_n 40 C dX9_fillCell_40 rfl rfl ?_
        refine v_iload 41 C dX9_fillCell_41 rfl ?_
        refine v_iload_n 43 C dX9_fillCell_43 rfl rfl ?_
        refine v_callV (st := []) 44 C [.int x4, .int x2] lm_X9_96 ly_X9_isChosen (hB 0 _ rfl) (by decide) dX9_fillCell_44 rfl (by decide) rfl (Nat.le_of_ble_eq_true rfl) (fun o1 h1 => m_X9_isChosen k hB x4 x2 s2 o1 h1) hf (fun v3 s4 hf => ?_)
        refine v_if_ne (tgt := 53) 47 C dX9_fillCell_47 (by decide) hf (fun hf => ?_) (fun hf => ?_)
        · refine v_iconst (v := 0) 53 C dX9_fillCell_53 (by decide) ?_
          refine v_istore (lv' := [(0, .ref (E.2.1 (k))), (1, .int x1), (2, .int x2), (3, .int x3), (4, .int x4), (5, .int 0)]) 54 C dX9_fillCell_54 (by decide) rfl rfl ?_
          exact Vx.lv [0, 1, 2, 3, 4, 5] rfl (k_X9_fillCell_b56 C k hB (f_X9_fillCell_b10 k n) ih fu x1 x2 x3 x4 0 s4 hf)
        · refine v_goto (tgt := 181) 50 C dX9_fillCell_50 (by decide) ?_
          exact Vx.lv [0, 1, 2, 3, 4] rfl (k_X9_fillCell_b181 C k hB (f_X9_fillCell_b10 k n) ih x1 x2 x3 x4 s4 hf)
def f_X9_fillCell (k : Nat) (x1 : Int32) (x2 : Int32) (σ : Sg) : Rs := p_put σ (k) 5 0 (fun s1 => f_X9_fillCell_b10 k fu x1 x2 0 0 s1)
set_option maxRecDepth 100000 in
set_option maxHeartbeats 4000000 in
theorem k_X9_fillCell_b0 {q : Mc} {E : En} {L : List Nat} {o : Int32 × Sg} (C : Cx q E L cX9_fillCell 7 RX9 (some .int) (4)) (k : Nat) (hB : Bk L sh_Work k) (x1 : Int32) (x2 : Int32) (σ : Sg) (hf : f_X9_fillCell k x1 x2 σ = some o) : Vx q E L 7 (some .int) o 0 [(0, .ref (E.2.1 (k))), (1, .int x1), (2, .int x2)] [] σ := by
  unfold f_X9_fillCell at hf
  refine v_iconst (v := 0) 0 C dX9_fillCell_0 (by decide) ?_
  refine v_istore_n (lv' := [(0, .ref (E.2.1 (k))), (1, .int x1), (2, .int x2), (3, .int 0)]) 1 C dX9_fillCell_1 rfl (by decide) rfl rfl ?_
  refine v_aload_n 2 C dX9_fillCell_2 rfl rfl ?_
  refine v_iconst (v := 0) 3 C dX9_fillCell_3 (by decide) ?_
  refine v_putI 4 C lp_X9_93 (hB 0 _ rfl) (by decide) rfl dX9_fillCell_4 hf (fun s1 hf => ?_)
  refine v_iconst (v := 0) 7 C dX9_fillCell_7 (by decide) ?_
  refine v_istore (lv' := [(0, .ref (E.2.1 (k))), (1, .int x1), (2, .int x2), (3, .int 0), (4, .int 0)]) 8 C dX9_fillCell_8 (by decide) rfl rfl ?_
  exact Vx.lv [0, 1, 2, 3, 4] rfl (k_X9_fillCell_b10 C k hB fu x1 x2 0 0 s1 hf)
theorem m_X9_fillCell {l : Launch} {E : En} {L : List Nat} (k : Nat) (hB : Bk L sh_Work k) (x1 : Int32) (x2 : Int32) (σ : Sg) (o : Int32 × Sg) (hf : f_X9_fillCell k x1 x2 σ = some o) : Mi l yX9_fillCell cX9_fillCell 7 (some .int) (4) E L [.ref (E.2.1 (k)), .int x1, .int x2] σ o :=
  Mi.of RX9 rfl (by decide) (Nat.le_of_ble_eq_true rfl) (fun q hq C => by subst hq; exact k_X9_fillCell_b0 C k hB x1 x2 σ hf)
def f_X9_share_b20 (k k1 : Nat)  : Nat → Int32 → Int32 → Int32 → Int32 → Int32 → Sg → Rs
  | 0, _, _, _, _, _, _ => none
  | n + 1, x2, x4, x5, x6, x7, σ => if x5 ≤ x7 then (some (x6, σ)) else (p_rd σ (k + 17) 16 x7 (fun v1 => p_call (f_X9_fillCell k x2 v1 σ) (fun v2 s3 => f_X9_share_b20 k k1 n x2 x4 x5 (x6 + v2) (x7 + (jmax 1 x4)) s3)))
set_option maxRecDepth 100000 in
set_option maxHeartbeats 4000000 in
theorem k_X9_share_b20 {q : Mc} {E : En} {L : List Nat} {o : Int32 × Sg} (C : Cx q E L cX9_share 8 RX9 (some .int) (5)) (k k1 : Nat) (hB : Bk L sh_Work k) (hB1 : Bk L sh_Game k1) (n : Nat) : ∀ (x2 : Int32) (x4 : Int32) (x5 : Int32) (x6 : Int32) (x7 : Int32) (σ : Sg), f_X9_share_b20 k k1 n x2 x4 x5 x6 x7 σ = some o → Vx q E L 8 (some .int) o 20 [(0, .ref (E.2.1 (k))), (2, .int x2), (4, .int x4), (5, .int x5), (6, .int x6), (7, .int x7)] [] σ := by
  induction n with
  | zero => intro x2 x4 x5 x6 x7 σ hf; cases (show (none : Rs) = some o from hf)
  | succ n ih =>
    intro x2 x4 x5 x6 x7 σ hf
    rw [f_X9_share_b20] at hf
    refine v_iload 20 C dX9_share_20 rfl ?_
    refine v_iload 22 C dX9_share_22 rfl ?_
    refine v_icmp_ge (tgt := 58) 24 C dX9_share_24 (by decide) hf (fun hf => ?_) (fun hf => ?_)
    · refine v_iload 58 C dX9_share_58 rfl ?_
      exact v_iret 60 C rfl dX9_share_60 hf
    · refine v_iload 27 C dX9_share_27 rfl ?_
      refine v_aload_n 29 C dX9_share_29 rfl rfl ?_
      refine v_iload_n 30 C dX9_share_30 rfl rfl ?_
      refine v_aload_n 31 C dX9_share_31 rfl rfl ?_
      refine v_getR 32 C lk_X9_18 (hB 0 _ rfl) (by decide) rfl dX9_share_32 ?_
      refine v_iload 35 C dX9_share_35 rfl ?_
      refine v_iald 37 C (hB 17 _ rfl) dX9_share_37 hf (fun v1 hf => ?_)
      refine v_callV (st := [.int x6]) 38 C [.int x2, .int v1] lm_X9_90 ly_X9_fillCell (hB 0 _ rfl) (by decide) dX9_share_38 rfl (by decide) rfl (Nat.le_of_ble_eq_true rfl) (fun o1 h1 => m_X9_fillCell k hB x2 v1 σ o1 h1) hf (fun v2 s3 hf => ?_)
      refine v_iadd 41 C dX9_share_41 ?_
      refine v_istore (lv' := [(0, .ref (E.2.1 (k))), (2, .int x2), (4, .int x4), (5, .int x5), (6, .int (x6 + v2)), (7, .int x7)]) 42 C dX9_share_42 (by decide) rfl rfl ?_
      refine v_iload 44 C dX9_share_44 rfl ?_
      refine v_iconst (v := 1) 46 C dX9_share_46 (by decide) ?_
      refine v_iload 47 C dX9_share_47 rfl ?_
      refine v_mmax 49 C lmm_X9_45 lma_max (by decide) (Nat.le_of_ble_eq_true rfl) dX9_share_49 ?_
      refine v_iadd 52 C dX9_share_52 ?_
      refine v_istore (lv' := [(0, .ref (E.2.1 (k))), (2, .int x2), (4, .int x4), (5, .int x5), (6, .int (x6 + v2)), (7, .int (x7 + (jmax 1 x4)))]) 53 C dX9_share_53 (by decide) rfl rfl ?_
      refine v_goto (tgt := 20) 55 C dX9_share_55 (by decide) ?_
      exact Vx.lv [0, 1, 2, 3, 4, 5] rfl (ih x2 x4 x5 (x6 + v2) (x7 + (jmax 1 x4)) s3 hf)
def f_X9_share (k k1 : Nat) (x2 : Int32) (x3 : Int32) (x4 : Int32) (x5 : Int32) (σ : Sg) : Rs := p_call (f_X0_copyFrom (k + 1 + 6) (k1 + 6) σ) (fun v1 s2 => f_X9_share_b20 k k1 fu x2 x4 x5 0 x3 s2)
set_option maxRecDepth 100000 in
set_option maxHeartbeats 4000000 in
theorem k_X9_share_b0 {q : Mc} {E : En} {L : List Nat} {o : Int32 × Sg} (C : Cx q E L cX9_share 8 RX9 (some .int) (5)) (k k1 : Nat) (hB : Bk L sh_Work k) (hB1 : Bk L sh_Game k1) (x2 : Int32) (x3 : Int32) (x4 : Int32) (x5 : Int32) (σ : Sg) (hf : f_X9_share k k1 x2 x3 x4 x5 σ = some o) : Vx q E L 8 (some .int) o 0 [(0, .ref (E.2.1 (k))), (1, .ref (E.2.1 (k1))), (2, .int x2), (3, .int x3), (4, .int x4), (5, .int x5)] [] σ := by
  unfold f_X9_share at hf
  refine v_iconst (v := 0) 0 C dX9_share_0 (by decide) ?_
  refine v_istore (lv' := [(0, .ref (E.2.1 (k))), (1, .ref (E.2.1 (k1))), (2, .int x2), (3, .int x3), (4, .int x4), (5, .int x5), (6, .int 0)]) 1 C dX9_share_1 (by decide) rfl rfl ?_
  refine v_aload_n 3 C dX9_share_3 rfl rfl ?_
  refine v_getR 4 C lk_X9_12 (hB 0 _ rfl) (by decide) rfl dX9_share_4 ?_
  refine v_getR 7 C lk_X9_29 ((hB.sub (sh' := sh_Game) 1 rfl) 0 _ rfl) (by decide) rfl dX9_share_7 ?_
  refine v_aload_n 10 C dX9_share_10 rfl rfl ?_
  refine v_getR 11 C lk_X9_29 (hB1 0 _ rfl) (by decide) rfl dX9_share_11 ?_
  refine v_callV (st := []) 14 C [.ref (E.2.1 (k1 + 6))] lm_X9_87 ly_X0_copyFrom (((hB.sub (sh' := sh_Game) 1 rfl).sub (sh' := sh_Board) 6 rfl) 0 _ rfl) (by decide) dX9_share_14 rfl (by decide) rfl (Nat.le_of_ble_eq_true rfl) (fun o1 h1 => m_X0_copyFrom (k + 1 + 6) (k1 + 6) ((hB.sub (sh' := sh_Game) 1 rfl).sub (sh' := sh_Board) 6 rfl) (hB1.sub (sh' := sh_Board) 6 rfl)  σ o1 h1) hf (fun v1 s2 hf => ?_)
  refine v_iload_n 17 C dX9_share_17 rfl rfl ?_
  refine v_istore (lv' := [(0, .ref (E.2.1 (k))), (1, .ref (E.2.1 (k1))), (2, .int x2), (3, .int x3), (4, .int x4), (5, .int x5), (6, .int 0), (7, .int x3)]) 18 C dX9_share_18 (by decide) rfl rfl ?_
  exact Vx.lv [0, 2, 4, 5, 6, 7] rfl (k_X9_share_b20 C k k1 hB hB1 fu x2 x4 x5 0 x3 s2 hf)
theorem m_X9_share {l : Launch} {E : En} {L : List Nat} (k k1 : Nat) (hB : Bk L sh_Work k) (hB1 : Bk L sh_Game k1) (x2 : Int32) (x3 : Int32) (x4 : Int32) (x5 : Int32) (σ : Sg) (o : Int32 × Sg) (hf : f_X9_share k k1 x2 x3 x4 x5 σ = some o) : Mi l yX9_share cX9_share 8 (some .int) (5) E L [.ref (E.2.1 (k)), .ref (E.2.1 (k1)), .int x2, .int x3, .int x4, .int x5] σ o :=
  Mi.of RX9 rfl (by decide) (Nat.le_of_ble_eq_true rfl) (fun q hq C => by subst hq; exact k_X9_share_b0 C k k1 hB hB1 x2 x3 x4 x5 σ hf)
def f_X9_wholeBy (k k1 : Nat) (x2 : Int32) (x3 : Int32) (σ : Sg) : Rs := p_call (f_X9_begin k k1 x2 σ) (fun v1 s2 => p_call (f_X9_sortingCost k (k1 + 6) s2) (fun v3 s4 => p_call (f_X9_share k k1 x3 0 1 (s4 (k) 4) s4) (fun v5 s6 => some (v3 + v5, s6))))
set_option maxRecDepth 100000 in
set_option maxHeartbeats 4000000 in
theorem k_X9_wholeBy_b0 {q : Mc} {E : En} {L : List Nat} {o : Int32 × Sg} (C : Cx q E L cX9_wholeBy 4 RX9 (some .int) (6)) (k k1 : Nat) (hB : Bk L sh_Work k) (hB1 : Bk L sh_Game k1) (x2 : Int32) (x3 : Int32) (σ : Sg) (hf : f_X9_wholeBy k k1 x2 x3 σ = some o) : Vx q E L 4 (some .int) o 0 [(0, .ref (E.2.1 (k))), (1, .ref (E.2.1 (k1))), (2, .int x2), (3, .int x3)] [] σ := by
  unfold f_X9_wholeBy at hf
  refine v_aload_n 0 C dX9_wholeBy_0 rfl rfl ?_
  refine v_aload_n 1 C dX9_wholeBy_1 rfl rfl ?_
  refine v_iload_n 2 C dX9_wholeBy_2 rfl rfl ?_
  refine v_callV (st := []) 3 C [.ref (E.2.1 (k1)), .int x2] lm_X9_25 ly_X9_begin (hB 0 _ rfl) (by decide) dX9_wholeBy_3 rfl (by decide) rfl (Nat.le_of_ble_eq_true rfl) (fun o1 h1 => m_X9_begin k k1 hB hB1 x2 σ o1 h1) hf (fun v1 s2 hf => ?_)
  refine v_aload_n 6 C dX9_wholeBy_6 rfl rfl ?_
  refine v_aload_n 7 C dX9_wholeBy_7 rfl rfl ?_
  refine v_getR 8 C lk_X9_29 (hB1 0 _ rfl) (by decide) rfl dX9_wholeBy_8 ?_
  refine v_callV (st := []) 11 C [.ref (E.2.1 (k1 + 6))] lm_X9_33 ly_X9_sortingCost (hB 0 _ rfl) (by decide) dX9_wholeBy_11 rfl (by decide) rfl (Nat.le_of_ble_eq_true rfl) (fun o1 h1 => m_X9_sortingCost k (k1 + 6) hB (hB1.sub (sh' := sh_Board) 6 rfl)  s2 o1 h1) hf (fun v3 s4 hf => ?_)
  refine v_aload_n 14 C dX9_wholeBy_14 rfl rfl ?_
  refine v_aload_n 15 C dX9_wholeBy_15 rfl rfl ?_
  refine v_iload_n 16 C dX9_wholeBy_16 rfl rfl ?_
  refine v_iconst (v := 0) 17 C dX9_wholeBy_17 (by decide) ?_
  refine v_iconst (v := 1) 18 C dX9_wholeBy_18 (by decide) ?_
  refine v_aload_n 19 C dX9_wholeBy_19 rfl rfl ?_
  refine v_getI (dum := 0) 20 C lk_X9_37 (hB 0 _ rfl) (by decide) rfl dX9_wholeBy_20 ?_
  refine v_callV (st := [.int v3]) 23 C [.ref (E.2.1 (k1)), .int x3, .int 0, .int 1, .int (s4 (k) 4)] lm_X9_41 ly_X9_share (hB 0 _ rfl) (by decide) dX9_wholeBy_23 rfl (by decide) rfl (Nat.le_of_ble_eq_true rfl) (fun o1 h1 => m_X9_share k k1 hB hB1 x3 0 1 (s4 (k) 4) s4 o1 h1) hf (fun v5 s6 hf => ?_)
  refine v_iadd 26 C dX9_wholeBy_26 ?_
  exact v_iret 27 C rfl dX9_wholeBy_27 hf
theorem m_X9_wholeBy {l : Launch} {E : En} {L : List Nat} (k k1 : Nat) (hB : Bk L sh_Work k) (hB1 : Bk L sh_Game k1) (x2 : Int32) (x3 : Int32) (σ : Sg) (o : Int32 × Sg) (hf : f_X9_wholeBy k k1 x2 x3 σ = some o) : Mi l yX9_wholeBy cX9_wholeBy 4 (some .int) (6) E L [.ref (E.2.1 (k)), .ref (E.2.1 (k1)), .int x2, .int x3] σ o :=
  Mi.of RX9 rfl (by decide) (Nat.le_of_ble_eq_true rfl) (fun q hq C => by subst hq; exact k_X9_wholeBy_b0 C k k1 hB hB1 x2 x3 σ hf)
def f_X9_halfBy (k k1 : Nat) (x2 : Int32) (x3 : Int32) (σ : Sg) : Rs := p_call (f_X9_begin k k1 x2 σ) (fun v1 s2 => p_call (f_X9_sortingCost k (k1 + 6) s2) (fun v3 s4 => p_call (f_X9_share k k1 x3 0 1 (jmin (s2 (k) 4) (jmax 1 ((s2 (k) 4) / 2))) s4) (fun v5 s6 => some (v3 + v5, s6))))
set_option maxRecDepth 100000 in
set_option maxHeartbeats 4000000 in
theorem k_X9_halfBy_b0 {q : Mc} {E : En} {L : List Nat} {o : Int32 × Sg} (C : Cx q E L cX9_halfBy 5 RX9 (some .int) (6)) (k k1 : Nat) (hB : Bk L sh_Work k) (hB1 : Bk L sh_Game k1) (x2 : Int32) (x3 : Int32) (σ : Sg) (hf : f_X9_halfBy k k1 x2 x3 σ = some o) : Vx q E L 5 (some .int) o 0 [(0, .ref (E.2.1 (k))), (1, .ref (E.2.1 (k1))), (2, .int x2), (3, .int x3)] [] σ := by
  unfold f_X9_halfBy at hf
  refine v_aload_n 0 C dX9_halfBy_0 rfl rfl ?_
  refine v_aload_n 1 C dX9_halfBy_1 rfl rfl ?_
  refine v_iload_n 2 C dX9_halfBy_2 rfl rfl ?_
  refine v_callV (st := []) 3 C [.ref (E.2.1 (k1)), .int x2] lm_X9_25 ly_X9_begin (hB 0 _ rfl) (by decide) dX9_halfBy_3 rfl (by decide) rfl (Nat.le_of_ble_eq_true rfl) (fun o1 h1 => m_X9_begin k k1 hB hB1 x2 σ o1 h1) hf (fun v1 s2 hf => ?_)
  refine v_aload_n 6 C dX9_halfBy_6 rfl rfl ?_
  refine v_getI (dum := 0) 7 C lk_X9_37 (hB 0 _ rfl) (by decide) rfl dX9_halfBy_7 ?_
  refine v_iconst (v := 1) 10 C dX9_halfBy_10 (by decide) ?_
  refine v_aload_n 11 C dX9_halfBy_11 rfl rfl ?_
  refine v_getI (dum := 0) 12 C lk_X9_37 (hB 0 _ rfl) (by decide) rfl dX9_halfBy_12 ?_
  refine v_iconst (v := 2) 15 C dX9_halfBy_15 (by decide) ?_
  refine v_idiv_c 16 C dX9_halfBy_16 (by decide) ?_
  refine v_mmax 17 C lmm_X9_45 lma_max (by decide) (Nat.le_of_ble_eq_true rfl) dX9_halfBy_17 ?_
  refine v_mmin 20 C lmm_X9_51 lma_min (by decide) (Nat.le_of_ble_eq_true rfl) dX9_halfBy_20 ?_
  refine v_istore (lv' := [(0, .ref (E.2.1 (k))), (1, .ref (E.2.1 (k1))), (2, .int x2), (3, .int x3), (4, .int (jmin (s2 (k) 4) (jmax 1 ((s2 (k) 4) / 2))))]) 23 C dX9_halfBy_23 (by decide) rfl rfl ?_
  refine v_aload_n 25 C dX9_halfBy_25 rfl rfl ?_
  refine v_aload_n 26 C dX9_halfBy_26 rfl rfl ?_
  refine v_getR 27 C lk_X9_29 (hB1 0 _ rfl) (by decide) rfl dX9_halfBy_27 ?_
  refine v_callV (st := []) 30 C [.ref (E.2.1 (k1 + 6))] lm_X9_33 ly_X9_sortingCost (hB 0 _ rfl) (by decide) dX9_halfBy_30 rfl (by decide) rfl (Nat.le_of_ble_eq_true rfl) (fun o1 h1 => m_X9_sortingCost k (k1 + 6) hB (hB1.sub (sh' := sh_Board) 6 rfl)  s2 o1 h1) hf (fun v3 s4 hf => ?_)
  refine v_aload_n 33 C dX9_halfBy_33 rfl rfl ?_
  refine v_aload_n 34 C dX9_halfBy_34 rfl rfl ?_
  refine v_iload_n 35 C dX9_halfBy_35 rfl rfl ?_
  refine v_iconst (v := 0) 36 C dX9_halfBy_36 (by decide) ?_
  refine v_iconst (v := 1) 37 C dX9_halfBy_37 (by decide) ?_
  refine v_iload 38 C dX9_halfBy_38 rfl ?_
  refine v_callV (st := [.int v3]) 40 C [.ref (E.2.1 (k1)), .int x3, .int 0, .int 1, .int (jmin (s2 (k) 4) (jmax 1 ((s2 (k) 4) / 2)))] lm_X9_41 ly_X9_share (hB 0 _ rfl) (by decide) dX9_halfBy_40 rfl (by decide) rfl (Nat.le_of_ble_eq_true rfl) (fun o1 h1 => m_X9_share k k1 hB hB1 x3 0 1 (jmin (s2 (k) 4) (jmax 1 ((s2 (k) 4) / 2))) s4 o1 h1) hf (fun v5 s6 hf => ?_)
  refine v_iadd 43 C dX9_halfBy_43 ?_
  exact v_iret 44 C rfl dX9_halfBy_44 hf
theorem m_X9_halfBy {l : Launch} {E : En} {L : List Nat} (k k1 : Nat) (hB : Bk L sh_Work k) (hB1 : Bk L sh_Game k1) (x2 : Int32) (x3 : Int32) (σ : Sg) (o : Int32 × Sg) (hf : f_X9_halfBy k k1 x2 x3 σ = some o) : Mi l yX9_halfBy cX9_halfBy 5 (some .int) (6) E L [.ref (E.2.1 (k)), .ref (E.2.1 (k1)), .int x2, .int x3] σ o :=
  Mi.of RX9 rfl (by decide) (Nat.le_of_ble_eq_true rfl) (fun q hq C => by subst hq; exact k_X9_halfBy_b0 C k k1 hB hB1 x2 x3 σ hf)
def f_X9_together_b12 (k k1 : Nat)  : Nat → Int32 → Int32 → Int32 → Sg → Rs
  | 0, _, _, _, _ => none
  | n + 1, x3, x4, x5, σ => if x3 ≤ x5 then (p_call (f_X9_sortingCost k (k1 + 6) σ) (fun v1 s2 => some ((x4 + ((x4 / 10) * (jmax 0 (x3 - 3)))) + v1, s2))) else (p_call (f_X9_share k k1 x5 x5 x3 (σ (k) 4) σ) (fun v3 s4 => f_X9_together_b12 k k1 n x3 (jmax x4 v3) (x5 + 1) s4))
set_option maxRecDepth 100000 in
set_option maxHeartbeats 4000000 in
theorem k_X9_together_b12 {q : Mc} {E : En} {L : List Nat} {o : Int32 × Sg} (C : Cx q E L cX9_together 6 RX9 (some .int) (6)) (k k1 : Nat) (hB : Bk L sh_Work k) (hB1 : Bk L sh_Game k1) (n : Nat) : ∀ (x3 : Int32) (x4 : Int32) (x5 : Int32) (σ : Sg), f_X9_together_b12 k k1 n x3 x4 x5 σ = some o → Vx q E L 6 (some .int) o 12 [(0, .ref (E.2.1 (k))), (1, .ref (E.2.1 (k1))), (3, .int x3), (4, .int x4), (5, .int x5)] [] σ := by
  induction n with
  | zero => intro x3 x4 x5 σ hf; cases (show (none : Rs) = some o from hf)
  | succ n ih =>
    intro x3 x4 x5 σ hf
    rw [f_X9_together_b12] at hf
    refine v_iload 12 C dX9_together_12 rfl ?_
    refine v_iload_n 14 C dX9_together_14 rfl rfl ?_
    refine v_icmp_ge (tgt := 45) 15 C dX9_together_15 (by decide) hf (fun hf => ?_) (fun hf => ?_)
    · refine v_iload 45 C dX9_together_45 rfl ?_
      refine v_iload 47 C dX9_together_47 rfl ?_
      refine v_bipush (v := 10) 49 C dX9_together_49 (by decide) ?_
      refine v_idiv_c 51 C dX9_together_51 (by decide) ?_
      refine v_iconst (v := 0) 52 C dX9_together_52 (by decide) ?_
      refine v_iload_n 53 C dX9_together_53 rfl rfl ?_
      refine v_iconst (v := 3) 54 C dX9_together_54 (by decide) ?_
      refine v_isub 55 C dX9_together_55 ?_
      refine v_mmax 56 C lmm_X9_45 lma_max (by decide) (Nat.le_of_ble_eq_true rfl) dX9_together_56 ?_
      refine v_imul 59 C dX9_together_59 ?_
      refine v_iadd 60 C dX9_together_60 ?_
      refine v_aload_n 61 C dX9_together_61 rfl rfl ?_
      refine v_aload_n 62 C dX9_together_62 rfl rfl ?_
      refine v_getR 63 C lk_X9_29 (hB1 0 _ rfl) (by decide) rfl dX9_together_63 ?_
      refine v_callV (st := [.int (x4 + ((x4 / 10) * (jmax 0 (x3 - 3))))]) 66 C [.ref (E.2.1 (k1 + 6))] lm_X9_33 ly_X9_sortingCost (hB 0 _ rfl) (by decide) dX9_together_66 rfl (by decide) rfl (Nat.le_of_ble_eq_true rfl) (fun o1 h1 => m_X9_sortingCost k (k1 + 6) hB (hB1.sub (sh' := sh_Board) 6 rfl)  σ o1 h1) hf (fun v1 s2 hf => ?_)
      refine v_iadd 69 C dX9_together_69 ?_
      exact v_iret 70 C rfl dX9_together_70 hf
    · refine v_iload 18 C dX9_together_18 rfl ?_
      refine v_aload_n 20 C dX9_together_20 rfl rfl ?_
      refine v_aload_n 21 C dX9_together_21 rfl rfl ?_
      refine v_iload 22 C dX9_together_22 rfl ?_
      refine v_iload 24 C dX9_together_24 rfl ?_
      refine v_iload_n 26 C dX9_together_26 rfl rfl ?_
      refine v_aload_n 27 C dX9_together_27 rfl rfl ?_
      refine v_getI (dum := 0) 28 C lk_X9_37 (hB 0 _ rfl) (by decide) rfl dX9_together_28 ?_
      refine v_callV (st := [.int x4]) 31 C [.ref (E.2.1 (k1)), .int x5, .int x5, .int x3, .int (σ (k) 4)] lm_X9_41 ly_X9_share (hB 0 _ rfl) (by decide) dX9_together_31 rfl (by decide) rfl (Nat.le_of_ble_eq_true rfl) (fun o1 h1 => m_X9_share k k1 hB hB1 x5 x5 x3 (σ (k) 4) σ o1 h1) hf (fun v3 s4 hf => ?_)
      refine v_mmax 34 C lmm_X9_45 lma_max (by decide) (Nat.le_of_ble_eq_true rfl) dX9_together_34 ?_
      refine v_istore (lv' := [(0, .ref (E.2.1 (k))), (1, .ref (E.2.1 (k1))), (3, .int x3), (4, .int (jmax x4 v3)), (5, .int x5)]) 37 C dX9_together_37 (by decide) rfl rfl ?_
      refine v_iinc (v := x5 + 1) (lv' := [(0, .ref (E.2.1 (k))), (1, .ref (E.2.1 (k1))), (3, .int x3), (4, .int (jmax x4 v3)), (5, .int (x5 + 1))]) 39 C dX9_together_39 rfl (by rfl) (by decide) rfl rfl ?_
      refine v_goto (tgt := 12) 42 C dX9_together_42 (by decide) ?_
      exact Vx.lv [0, 1, 2, 3, 4] rfl (ih x3 (jmax x4 v3) (x5 + 1) s4 hf)
def f_X9_together (k k1 : Nat) (x2 : Int32) (x3 : Int32) (σ : Sg) : Rs := p_call (f_X9_begin k k1 x2 σ) (fun v1 s2 => f_X9_together_b12 k k1 fu x3 0 0 s2)
set_option maxRecDepth 100000 in
set_option maxHeartbeats 4000000 in
theorem k_X9_together_b0 {q : Mc} {E : En} {L : List Nat} {o : Int32 × Sg} (C : Cx q E L cX9_together 6 RX9 (some .int) (6)) (k k1 : Nat) (hB : Bk L sh_Work k) (hB1 : Bk L sh_Game k1) (x2 : Int32) (x3 : Int32) (σ : Sg) (hf : f_X9_together k k1 x2 x3 σ = some o) : Vx q E L 6 (some .int) o 0 [(0, .ref (E.2.1 (k))), (1, .ref (E.2.1 (k1))), (2, .int x2), (3, .int x3)] [] σ := by
  unfold f_X9_together at hf
  refine v_aload_n 0 C dX9_together_0 rfl rfl ?_
  refine v_aload_n 1 C dX9_together_1 rfl rfl ?_
  refine v_iload_n 2 C dX9_together_2 rfl rfl ?_
  refine v_callV (st := []) 3 C [.ref (E.2.1 (k1)), .int x2] lm_X9_25 ly_X9_begin (hB 0 _ rfl) (by decide) dX9_together_3 rfl (by decide) rfl (Nat.le_of_ble_eq_true rfl) (fun o1 h1 => m_X9_begin k k1 hB hB1 x2 σ o1 h1) hf (fun v1 s2 hf => ?_)
  refine v_iconst (v := 0) 6 C dX9_together_6 (by decide) ?_
  refine v_istore (lv' := [(0, .ref (E.2.1 (k))), (1, .ref (E.2.1 (k1))), (2, .int x2), (3, .int x3), (4, .int 0)]) 7 C dX9_together_7 (by decide) rfl rfl ?_
  refine v_iconst (v := 0) 9 C dX9_together_9 (by decide) ?_
  refine v_istore (lv' := [(0, .ref (E.2.1 (k))), (1, .ref (E.2.1 (k1))), (2, .int x2), (3, .int x3), (4, .int 0), (5, .int 0)]) 10 C dX9_together_10 (by decide) rfl rfl ?_
  exact Vx.lv [0, 1, 3, 4, 5] rfl (k_X9_together_b12 C k k1 hB hB1 fu x3 0 0 s2 hf)
theorem m_X9_together {l : Launch} {E : En} {L : List Nat} (k k1 : Nat) (hB : Bk L sh_Work k) (hB1 : Bk L sh_Game k1) (x2 : Int32) (x3 : Int32) (σ : Sg) (o : Int32 × Sg) (hf : f_X9_together k k1 x2 x3 σ = some o) : Mi l yX9_together cX9_together 6 (some .int) (6) E L [.ref (E.2.1 (k)), .ref (E.2.1 (k1)), .int x2, .int x3] σ o :=
  Mi.of RX9 rfl (by decide) (Nat.le_of_ble_eq_true rfl) (fun q hq C => by subst hq; exact k_X9_together_b0 C k k1 hB hB1 x2 x3 σ hf)
