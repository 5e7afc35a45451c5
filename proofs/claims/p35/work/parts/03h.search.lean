/-! printed by wip/whole/gen/gen.py: methods as pure functions, and that the machine does them -/
def f_X6_layTurned_b83 (rc : Nat → Nat → Int32 → Sg → Rs) (k k1 : Nat) (r3 : Int32 → Int32 → Int32 → Sg → Rs) (x2 : Int32) (x3 : Int32) (x4 : Int32) (σ : Sg) : Rs := r3 x2 x3 (x4 + 1) σ
set_option maxRecDepth 100000 in
set_option maxHeartbeats 4000000 in
theorem k_X6_layTurned_b83 {q : Mc} {E : En} {L : List Nat} {o : Int32 × Sg} {D : Nat} (C : Cx q E L cX6_layTurned 5 RX6 none (D + 1)) (rc : Nat → Nat → Int32 → Sg → Rs) (hD : 8 ≤ D) (hrc : ∀ (k k1 : Nat) (hB : Bk L sh_Search k) (hB1 : Bk L sh_Cut k1) (x2 : Int32) (σ : Sg) (o1 : Int32 × Sg), rc k k1 x2 σ = some o1 → Mi (mL q) yX6_layFrom cX6_layFrom 4 none D E L [.ref (E.2.1 k), .ref (E.2.1 k1), .int x2] σ o1) (k k1 : Nat) (hB : Bk L sh_Search k) (hB1 : Bk L sh_Cut k1) (r3 : Int32 → Int32 → Int32 → Sg → Rs) (hr3 : ∀ (x2 : Int32) (x3 : Int32) (x4 : Int32) (σ : Sg), r3 x2 x3 x4 σ = some o → Vx q E L 5 none o 3 [(0, .ref (E.2.1 (k))), (1, .ref (E.2.1 (k1))), (2, .int x2), (3, .int x3), (4, .int x4)] [] σ) (x2 : Int32) (x3 : Int32) (x4 : Int32) (σ : Sg) (hf : f_X6_layTurned_b83 rc k k1 r3 x2 x3 x4 σ = some o) : Vx q E L 5 none o 83 [(0, .ref (E.2.1 (k))), (1, .ref (E.2.1 (k1))), (2, .int x2), (3, .int x3), (4, .int x4)] [] σ := by
  unfold f_X6_layTurned_b83 at hf
  refine v_iinc (v := x4 + 1) (lv' := [(0, .ref (E.2.1 (k))), (1, .ref (E.2.1 (k1))), (2, .int x2), (3, .int x3), (4, .int (x4 + 1))]) 83 C dX6_layTurned_83 rfl (by rfl) (by decide) rfl rfl ?_
  refine v_goto (tgt := 3) 86 C dX6_layTurned_86 (by decide) ?_
  exact Vx.lv [0, 1, 2, 3, 4] rfl (hr3 x2 x3 (x4 + 1) σ hf)
def f_X6_layTurned_b3 (rc : Nat → Nat → Int32 → Sg → Rs) (k k1 : Nat)  : Nat → Int32 → Int32 → Int32 → Sg → Rs
  | 0, _, _, _, _ => none
  | n + 1, x2, x3, x4, σ => if 4 ≤ x4 then (some (0, σ)) else (if (20000 : Int32) < (σ (k) 4) then (some (0, σ)) else (p_put σ (k) 4 ((σ (k) 4) + 1) (fun s1 => if (20000 : Int32) < (s1 (k) 4) then (f_X6_layTurned_b83 rc k k1 (f_X6_layTurned_b3 rc k k1 n) x2 x3 x4 s1) else (p_call (f_X1_isFit k1 (k + 1) x3 x4 x2 s1) (fun v2 s3 => if v2 = 0 then (f_X6_layTurned_b83 rc k k1 (f_X6_layTurned_b3 rc k k1 n) x2 x3 x4 s3) else (p_call (f_X0_put (k + 1) x2 x3 x4 0 s3) (fun v4 s5 => p_call (rc k k1 (x2 + 1) s5) (fun v6 s7 => p_call (f_X0_takeUp (k + 1) x2 s7) (fun v8 s9 => f_X6_layTurned_b83 rc k k1 (f_X6_layTurned_b3 rc k k1 n) x2 x3 x4 s9)))))))))
set_option maxRecDepth 100000 in
set_option maxHeartbeats 4000000 in
theorem k_X6_layTurned_b3 {q : Mc} {E : En} {L : List Nat} {o : Int32 × Sg} {D : Nat} (C : Cx q E L cX6_layTurned 5 RX6 none (D + 1)) (rc : Nat → Nat → Int32 → Sg → Rs) (hD : 8 ≤ D) (hrc : ∀ (k k1 : Nat) (hB : Bk L sh_Search k) (hB1 : Bk L sh_Cut k1) (x2 : Int32) (σ : Sg) (o1 : Int32 × Sg), rc k k1 x2 σ = some o1 → Mi (mL q) yX6_layFrom cX6_layFrom 4 none D E L [.ref (E.2.1 k), .ref (E.2.1 k1), .int x2] σ o1) (k k1 : Nat) (hB : Bk L sh_Search k) (hB1 : Bk L sh_Cut k1) (n : Nat) : ∀ (x2 : Int32) (x3 : Int32) (x4 : Int32) (σ : Sg), f_X6_layTurned_b3 rc k k1 n x2 x3 x4 σ = some o → Vx q E L 5 none o 3 [(0, .ref (E.2.1 (k))), (1, .ref (E.2.1 (k1))), (2, .int x2), (3, .int x3), (4, .int x4)] [] σ := by
  induction n with
  | zero => intro x2 x3 x4 σ hf; cases (show (none : Rs) = some o from hf)
  | succ n ih =>
    intro x2 x3 x4 σ hf
    rw [f_X6_layTurned_b3] at hf
    refine v_iload 3 C dX6_layTurned_3 rfl ?_
    refine v_iconst (v := 4) 5 C dX6_layTurned_5 (by decide) ?_
    refine v_icmp_ge (tgt := 89) 6 C dX6_layTurned_6 (by decide) hf (fun hf => ?_) (fun hf => ?_)
    · exact v_ret (r := 0) 89 C rfl dX6_layTurned_89 hf
    · refine v_aload_n 9 C dX6_layTurned_9 rfl rfl ?_
      refine v_getI (dum := 0) 10 C lk_X6_29 (hB 0 _ rfl) (by decide) rfl dX6_layTurned_10 ?_
      refine v_sipush (v := 20000) 13 C dX6_layTurned_13 (by decide) ?_
      refine v_icmp_gt (tgt := 89) 16 C dX6_layTurned_16 (by decide) hf (fun hf => ?_) (fun hf => ?_)
      · exact v_ret (r := 0) 89 C rfl dX6_layTurned_89 hf
      · refine v_aload_n 19 C dX6_layTurned_19 rfl rfl ?_
        refine v_dup 20 C dX6_layTurned_20 rfl ?_
        refine v_getI (dum := 0) 21 C lk_X6_29 (hB 0 _ rfl) (by decide) rfl dX6_layTurned_21 ?_
        refine v_iconst (v := 1) 24 C dX6_layTurned_24 (by decide) ?_
        refine v_iadd 25 C dX6_layTurned_25 ?_
        refine v_putI 26 C lp_X6_29 (hB 0 _ rfl) (by decide) rfl dX6_layTurned_26 hf (fun s1 hf => ?_)
        refine v_aload_n 29 C dX6_layTurned_29 rfl rfl ?_
        refine v_getI (dum := 0) 30 C lk_X6_29 (hB 0 _ rfl) (by decide) rfl dX6_layTurned_30 ?_
        refine v_sipush (v := 20000) 33 C dX6_layTurned_33 (by decide) ?_
        refine v_icmp_gt (tgt := 83) 36 C dX6_layTurned_36 (by decide) hf (fun hf => ?_) (fun hf => ?_)
        · exact Vx.lv [0, 1, 2, 3, 4] rfl (k_X6_layTurned_b83 C rc hD hrc k k1 hB hB1 (f_X6_layTurned_b3 rc k k1 n) ih x2 x3 x4 s1 hf)
        · refine v_aload_n 39 C dX6_layTurned_39 rfl rfl ?_
          refine v_aload_n 40 C dX6_layTurned_40 rfl rfl ?_
          refine v_getR 41 C lk_X6_12 (hB 0 _ rfl) (by decide) rfl dX6_layTurned_41 ?_
          refine v_iload_n 44 C dX6_layTurned_44 rfl rfl ?_
          refine v_iload 45 C dX6_layTurned_45 rfl ?_
          refine v_iload_n 47 C dX6_layTurned_47 rfl rfl ?_
          refine v_callV (st := []) 48 C [.ref (E.2.1 (k + 1)), .int x3, .int x4, .int x2] lm_X6_56 ly_X1_isFit (hB1 0 _ rfl) (by decide) dX6_layTurned_48 rfl (by omega) rfl (Nat.le_of_ble_eq_true rfl) (fun o1 h1 => m_X1_isFit k1 (k + 1) hB1 (hB.sub (sh' := sh_Board) 1 rfl) x3 x4 x2 s1 o1 h1) hf (fun v2 s3 hf => ?_)
          refine v_if_eq (tgt := 83) 51 C dX6_layTurned_51 (by decide) hf (fun hf => ?_) (fun hf => ?_)
          · exact Vx.lv [0, 1, 2, 3, 4] rfl (k_X6_layTurned_b83 C rc hD hrc k k1 hB hB1 (f_X6_layTurned_b3 rc k k1 n) ih x2 x3 x4 s3 hf)
          · refine v_aload_n 54 C dX6_layTurned_54 rfl rfl ?_
            refine v_getR 55 C lk_X6_12 (hB 0 _ rfl) (by decide) rfl dX6_layTurned_55 ?_
            refine v_iload_n 58 C dX6_layTurned_58 rfl rfl ?_
            refine v_iload_n 59 C dX6_layTurned_59 rfl rfl ?_
            refine v_iload 60 C dX6_layTurned_60 rfl ?_
            refine v_iconst (v := 0) 62 C dX6_layTurned_62 (by decide) ?_
            refine v_callV (st := []) 63 C [.int x2, .int x3, .int x4, .int 0] lm_X6_60 ly_X0_put ((hB.sub (sh' := sh_Board) 1 rfl) 0 _ rfl) (by decide) dX6_layTurned_63 rfl (by omega) rfl (Nat.le_of_ble_eq_true rfl) (fun o1 h1 => m_X0_put (k + 1) (hB.sub (sh' := sh_Board) 1 rfl) x2 x3 x4 0 s3 o1 h1) hf (fun v4 s5 hf => ?_)
            refine v_aload_n 66 C dX6_layTurned_66 rfl rfl ?_
            refine v_aload_n 67 C dX6_layTurned_67 rfl rfl ?_
            refine v_iload_n 68 C dX6_layTurned_68 rfl rfl ?_
            refine v_iconst (v := 1) 69 C dX6_layTurned_69 (by decide) ?_
            refine v_iadd 70 C dX6_layTurned_70 ?_
            refine v_callV (st := []) 71 C [.ref (E.2.1 (k1)), .int (x2 + 1)] lm_X6_35 ly_X6_layFrom (hB 0 _ rfl) (by decide) dX6_layTurned_71 rfl (by omega) rfl (Nat.le_of_ble_eq_true rfl) (fun o1 h1 => hrc k k1 hB hB1 (x2 + 1) s5 o1 h1) hf (fun v6 s7 hf => ?_)
            refine v_aload_n 74 C dX6_layTurned_74 rfl rfl ?_
            refine v_getR 75 C lk_X6_12 (hB 0 _ rfl) (by decide) rfl dX6_layTurned_75 ?_
            refine v_iload_n 78 C dX6_layTurned_78 rfl rfl ?_
            refine v_callV (st := []) 79 C [.int x2] lm_X6_64 ly_X0_takeUp ((hB.sub (sh' := sh_Board) 1 rfl) 0 _ rfl) (by decide) dX6_layTurned_79 rfl (by omega) rfl (Nat.le_of_ble_eq_true rfl) (fun o1 h1 => m_X0_takeUp (k + 1) (hB.sub (sh' := sh_Board) 1 rfl) x2 s7 o1 h1) hf (fun v8 s9 hf => ?_)
            refine v_pop 82 C dX6_layTurned_82 rfl ?_
            exact Vx.lv [0, 1, 2, 3, 4] rfl (k_X6_layTurned_b83 C rc hD hrc k k1 hB hB1 (f_X6_layTurned_b3 rc k k1 n) ih x2 x3 x4 s9 hf)
def f_X6_layTurned (rc : Nat → Nat → Int32 → Sg → Rs) (k k1 : Nat) (x2 : Int32) (x3 : Int32) (σ : Sg) : Rs := f_X6_layTurned_b3 rc k k1 fu x2 x3 0 σ
set_option maxRecDepth 100000 in
set_option maxHeartbeats 4000000 in
theorem k_X6_layTurned_b0 {q : Mc} {E : En} {L : List Nat} {o : Int32 × Sg} {D : Nat} (C : Cx q E L cX6_layTurned 5 RX6 none (D + 1)) (rc : Nat → Nat → Int32 → Sg → Rs) (hD : 8 ≤ D) (hrc : ∀ (k k1 : Nat) (hB : Bk L sh_Search k) (hB1 : Bk L sh_Cut k1) (x2 : Int32) (σ : Sg) (o1 : Int32 × Sg), rc k k1 x2 σ = some o1 → Mi (mL q) yX6_layFrom cX6_layFrom 4 none D E L [.ref (E.2.1 k), .ref (E.2.1 k1), .int x2] σ o1) (k k1 : Nat) (hB : Bk L sh_Search k) (hB1 : Bk L sh_Cut k1) (x2 : Int32) (x3 : Int32) (σ : Sg) (hf : f_X6_layTurned rc k k1 x2 x3 σ = some o) : Vx q E L 5 none o 0 [(0, .ref (E.2.1 (k))), (1, .ref (E.2.1 (k1))), (2, .int x2), (3, .int x3)] [] σ := by
  unfold f_X6_layTurned at hf
  refine v_iconst (v := 0) 0 C dX6_layTurned_0 (by decide) ?_
  refine v_istore (lv' := [(0, .ref (E.2.1 (k))), (1, .ref (E.2.1 (k1))), (2, .int x2), (3, .int x3), (4, .int 0)]) 1 C dX6_layTurned_1 (by decide) rfl rfl ?_
  exact Vx.lv [0, 1, 2, 3, 4] rfl (k_X6_layTurned_b3 C rc hD hrc k k1 hB hB1 fu x2 x3 0 σ hf)
theorem m_X6_layTurned {l : Launch} {E : En} {L : List Nat} (rc : Nat → Nat → Int32 → Sg → Rs) (D : Nat) (hD : 8 ≤ D) (hrc : ∀ (k k1 : Nat) (hB : Bk L sh_Search k) (hB1 : Bk L sh_Cut k1) (x2 : Int32) (σ : Sg) (o1 : Int32 × Sg), rc k k1 x2 σ = some o1 → Mi l yX6_layFrom cX6_layFrom 4 none D E L [.ref (E.2.1 k), .ref (E.2.1 k1), .int x2] σ o1) (k k1 : Nat) (hB : Bk L sh_Search k) (hB1 : Bk L sh_Cut k1) (x2 : Int32) (x3 : Int32) (σ : Sg) (o : Int32 × Sg) (hf : f_X6_layTurned rc k k1 x2 x3 σ = some o) : Mi l yX6_layTurned cX6_layTurned 5 none (D + 1) E L [.ref (E.2.1 (k)), .ref (E.2.1 (k1)), .int x2, .int x3] σ o :=
  Mi.of RX6 rfl (by decide) (Nat.le_of_ble_eq_true rfl) (fun q hq C => by subst hq; exact k_X6_layTurned_b0 C rc hD hrc k k1 hB hB1 x2 x3 σ hf)
def f_X6_layFrom_b76 (rc : Nat → Nat → Int32 → Sg → Rs) (k k1 : Nat) (r40 : Int32 → Int32 → Sg → Rs) (x2 : Int32) (x3 : Int32) (σ : Sg) : Rs := r40 x2 (x3 + 1) σ
set_option maxRecDepth 100000 in
set_option maxHeartbeats 4000000 in
theorem k_X6_layFrom_b76 {q : Mc} {E : En} {L : List Nat} {o : Int32 × Sg} {D : Nat} (C : Cx q E L cX6_layFrom 4 RX6 none (D + 2)) (rc : Nat → Nat → Int32 → Sg → Rs) (hD : 8 ≤ D) (hrc : ∀ (k k1 : Nat) (hB : Bk L sh_Search k) (hB1 : Bk L sh_Cut k1) (x2 : Int32) (σ : Sg) (o1 : Int32 × Sg), rc k k1 x2 σ = some o1 → Mi (mL q) yX6_layFrom cX6_layFrom 4 none D E L [.ref (E.2.1 k), .ref (E.2.1 k1), .int x2] σ o1) (k k1 : Nat) (hB : Bk L sh_Search k) (hB1 : Bk L sh_Cut k1) (r40 : Int32 → Int32 → Sg → Rs) (hr40 : ∀ (x2 : Int32) (x3 : Int32) (σ : Sg), r40 x2 x3 σ = some o → Vx q E L 4 none o 40 [(0, .ref (E.2.1 (k))), (1, .ref (E.2.1 (k1))), (2, .int x2), (3, .int x3)] [] σ) (x2 : Int32) (x3 : Int32) (σ : Sg) (hf : f_X6_layFrom_b76 rc k k1 r40 x2 x3 σ = some o) : Vx q E L 4 none o 76 [(0, .ref (E.2.1 (k))), (1, .ref (E.2.1 (k1))), (2, .int x2), (3, .int x3)] [] σ := by
  unfold f_X6_layFrom_b76 at hf
  refine v_iinc (v := x3 + 1) (lv' := [(0, .ref (E.2.1 (k))), (1, .ref (E.2.1 (k1))), (2, .int x2), (3, .int (x3 + 1))]) 76 C dX6_layFrom_76 rfl (by rfl) (by decide) rfl rfl ?_
  refine v_goto (tgt := 40) 79 C dX6_layFrom_79 (by decide) ?_
  exact Vx.lv [0, 1, 2, 3] rfl (hr40 x2 (x3 + 1) σ hf)
def f_X6_layFrom_b40 (rc : Nat → Nat → Int32 → Sg → Rs) (k k1 : Nat)  : Nat → Int32 → Int32 → Sg → Rs
  | 0, _, _, _ => none
  | n + 1, x2, x3, σ => if (σ (k1) 2) ≤ x3 then (some (0, σ)) else (if (20000 : Int32) < (σ (k) 4) then (some (0, σ)) else (p_call (f_X0_isAway (k + 1) x3 σ) (fun v1 s2 => if v1 = 0 then (p_call (f_X6_layTurned rc k k1 x2 x3 s2) (fun v3 s4 => f_X6_layFrom_b76 rc k k1 (f_X6_layFrom_b40 rc k k1 n) x2 x3 s4)) else (f_X6_layFrom_b76 rc k k1 (f_X6_layFrom_b40 rc k k1 n) x2 x3 s2))))
set_option maxRecDepth 100000 in
set_option maxHeartbeats 4000000 in
theorem k_X6_layFrom_b40 {q : Mc} {E : En} {L : List Nat} {o : Int32 × Sg} {D : Nat} (C : Cx q E L cX6_layFrom 4 RX6 none (D + 2)) (rc : Nat → Nat → Int32 → Sg → Rs) (hD : 8 ≤ D) (hrc : ∀ (k k1 : Nat) (hB : Bk L sh_Search k) (hB1 : Bk L sh_Cut k1) (x2 : Int32) (σ : Sg) (o1 : Int32 × Sg), rc k k1 x2 σ = some o1 → Mi (mL q) yX6_layFrom cX6_layFrom 4 none D E L [.ref (E.2.1 k), .ref (E.2.1 k1), .int x2] σ o1) (k k1 : Nat) (hB : Bk L sh_Search k) (hB1 : Bk L sh_Cut k1) (n : Nat) : ∀ (x2 : Int32) (x3 : Int32) (σ : Sg), f_X6_layFrom_b40 rc k k1 n x2 x3 σ = some o → Vx q E L 4 none o 40 [(0, .ref (E.2.1 (k))), (1, .ref (E.2.1 (k1))), (2, .int x2), (3, .int x3)] [] σ := by
  induction n with
  | zero => intro x2 x3 σ hf; cases (show (none : Rs) = some o from hf)
  | succ n ih =>
    intro x2 x3 σ hf
    rw [f_X6_layFrom_b40] at hf
    refine v_iload_n 40 C dX6_layFrom_40 rfl rfl ?_
    refine v_aload_n 41 C dX6_layFrom_41 rfl rfl ?_
    refine v_getI (dum := 0) 42 C lk_X6_39 (hB1 0 _ rfl) (by decide) rfl dX6_layFrom_42 ?_
    refine v_icmp_ge (tgt := 82) 45 C dX6_layFrom_45 (by decide) hf (fun hf => ?_) (fun hf => ?_)
    · exact v_ret (r := 0) 82 C rfl dX6_layFrom_82 hf
    · refine v_aload_n 48 C dX6_layFrom_48 rfl rfl ?_
      refine v_getI (dum := 0) 49 C lk_X6_29 (hB 0 _ rfl) (by decide) rfl dX6_layFrom_49 ?_
      refine v_sipush (v := 20000) 52 C dX6_layFrom_52 (by decide) ?_
      refine v_icmp_gt (tgt := 82) 55 C dX6_layFrom_55 (by decide) hf (fun hf => ?_) (fun hf => ?_)
      · exact v_ret (r := 0) 82 C rfl dX6_layFrom_82 hf
      · refine v_aload_n 58 C dX6_layFrom_58 rfl rfl ?_
        refine v_getR 59 C lk_X6_12 (hB 0 _ rfl) (by decide) rfl dX6_layFrom_59 ?_
        refine v_iload_n 62 C dX6_layFrom_62 rfl rfl ?_
        refine v_callV (st := []) 63 C [.int x3] lm_X6_48 ly_X0_isAway ((hB.sub (sh' := sh_Board) 1 rfl) 0 _ rfl) (by decide) dX6_layFrom_63 rfl (by omega) rfl (Nat.le_of_ble_eq_true rfl) (fun o1 h1 => m_X0_isAway (k + 1) (hB.sub (sh' := sh_Board) 1 rfl) x3 σ o1 h1) hf (fun v1 s2 hf => ?_)
        refine v_if_ne (tgt := 76) 66 C dX6_layFrom_66 (by decide) hf (fun hf => ?_) (fun hf => ?_)
        · exact Vx.lv [0, 1, 2, 3] rfl (k_X6_layFrom_b76 C rc hD hrc k k1 hB hB1 (f_X6_layFrom_b40 rc k k1 n) ih x2 x3 s2 hf)
        · refine v_aload_n 69 C dX6_layFrom_69 rfl rfl ?_
          refine v_aload_n 70 C dX6_layFrom_70 rfl rfl ?_
          refine v_iload_n 71 C dX6_layFrom_71 rfl rfl ?_
          refine v_iload_n 72 C dX6_layFrom_72 rfl rfl ?_
          refine v_callV (st := []) 73 C [.ref (E.2.1 (k1)), .int x2, .int x3] lm_X6_52 ly_X6_layTurned (hB 0 _ rfl) (by decide) dX6_layFrom_73 rfl (by omega) rfl (Nat.le_of_ble_eq_true rfl) (fun o1 h1 => m_X6_layTurned rc _ hD hrc k k1 hB hB1 x2 x3 s2 o1 h1) hf (fun v3 s4 hf => ?_)
          exact Vx.lv [0, 1, 2, 3] rfl (k_X6_layFrom_b76 C rc hD hrc k k1 hB hB1 (f_X6_layFrom_b40 rc k k1 n) ih x2 x3 s4 hf)
def f_X6_layFromR (rc : Nat → Nat → Int32 → Sg → Rs) (k k1 : Nat) (x2 : Int32) (σ : Sg) : Rs := if x2 < (σ (k1) 2) then (f_X6_layFrom_b40 rc k k1 fu x2 0 σ) else (p_put σ (k) 3 ((σ (k) 3) + 1) (fun s1 => if (s1 (k) 3) = 1 then (p_call (f_X0_copyFrom (k + 7) (k + 1) s1) (fun v2 s3 => some (0, s3))) else (some (0, s1))))
set_option maxRecDepth 100000 in
set_option maxHeartbeats 4000000 in
theorem k_X6_layFrom_b0 {q : Mc} {E : En} {L : List Nat} {o : Int32 × Sg} {D : Nat} (C : Cx q E L cX6_layFrom 4 RX6 none (D + 2)) (rc : Nat → Nat → Int32 → Sg → Rs) (hD : 8 ≤ D) (hrc : ∀ (k k1 : Nat) (hB : Bk L sh_Search k) (hB1 : Bk L sh_Cut k1) (x2 : Int32) (σ : Sg) (o1 : Int32 × Sg), rc k k1 x2 σ = some o1 → Mi (mL q) yX6_layFrom cX6_layFrom 4 none D E L [.ref (E.2.1 k), .ref (E.2.1 k1), .int x2] σ o1) (k k1 : Nat) (hB : Bk L sh_Search k) (hB1 : Bk L sh_Cut k1) (x2 : Int32) (σ : Sg) (hf : f_X6_layFromR rc k k1 x2 σ = some o) : Vx q E L 4 none o 0 [(0, .ref (E.2.1 (k))), (1, .ref (E.2.1 (k1))), (2, .int x2)] [] σ := by
  unfold f_X6_layFromR at hf
  refine v_iload_n 0 C dX6_layFrom_0 rfl rfl ?_
  refine v_aload_n 1 C dX6_layFrom_1 rfl rfl ?_
  refine v_getI (dum := 0) 2 C lk_X6_39 (hB1 0 _ rfl) (by decide) rfl dX6_layFrom_2 ?_
  refine v_icmp_lt (tgt := 38) 5 C dX6_layFrom_5 (by decide) hf (fun hf => ?_) (fun hf => ?_)
  · refine v_iconst (v := 0) 38 C dX6_layFrom_38 (by decide) ?_
    refine v_istore_n (lv' := [(0, .ref (E.2.1 (k))), (1, .ref (E.2.1 (k1))), (2, .int x2), (3, .int 0)]) 39 C dX6_layFrom_39 rfl (by decide) rfl rfl ?_
    exact Vx.lv [0, 1, 2, 3] rfl (k_X6_layFrom_b40 C rc hD hrc k k1 hB hB1 fu x2 0 σ hf)
  · refine v_aload_n 8 C dX6_layFrom_8 rfl rfl ?_
    refine v_dup 9 C dX6_layFrom_9 rfl ?_
    refine v_getI (dum := 0) 10 C lk_X6_25 (hB 0 _ rfl) (by decide) rfl dX6_layFrom_10 ?_
    refine v_iconst (v := 1) 13 C dX6_layFrom_13 (by decide) ?_
    refine v_iadd 14 C dX6_layFrom_14 ?_
    refine v_putI 15 C lp_X6_25 (hB 0 _ rfl) (by decide) rfl dX6_layFrom_15 hf (fun s1 hf => ?_)
    refine v_aload_n 18 C dX6_layFrom_18 rfl rfl ?_
    refine v_getI (dum := 0) 19 C lk_X6_25 (hB 0 _ rfl) (by decide) rfl dX6_layFrom_19 ?_
    refine v_iconst (v := 1) 22 C dX6_layFrom_22 (by decide) ?_
    refine v_icmp_ne (tgt := 37) 23 C dX6_layFrom_23 (by decide) hf (fun hf => ?_) (fun hf => ?_)
    · exact v_ret (r := 0) 37 C rfl dX6_layFrom_37 hf
    · refine v_aload_n 26 C dX6_layFrom_26 rfl rfl ?_
      refine v_getR 27 C lk_X6_18 (hB 0 _ rfl) (by decide) rfl dX6_layFrom_27 ?_
      refine v_aload_n 30 C dX6_layFrom_30 rfl rfl ?_
      refine v_getR 31 C lk_X6_12 (hB 0 _ rfl) (by decide) rfl dX6_layFrom_31 ?_
      refine v_callV (st := []) 34 C [.ref (E.2.1 (k + 1))] lm_X6_44 ly_X0_copyFrom ((hB.sub (sh' := sh_Board) 7 rfl) 0 _ rfl) (by decide) dX6_layFrom_34 rfl (by omega) rfl (Nat.le_of_ble_eq_true rfl) (fun o1 h1 => m_X0_copyFrom (k + 7) (k + 1) (hB.sub (sh' := sh_Board) 7 rfl) (hB.sub (sh' := sh_Board) 1 rfl)  s1 o1 h1) hf (fun v2 s3 hf => ?_)
      exact v_ret (r := 0) 37 C rfl dX6_layFrom_37 hf
theorem m_X6_layFromR {l : Launch} {E : En} {L : List Nat} (rc : Nat → Nat → Int32 → Sg → Rs) (D : Nat) (hD : 8 ≤ D) (hrc : ∀ (k k1 : Nat) (hB : Bk L sh_Search k) (hB1 : Bk L sh_Cut k1) (x2 : Int32) (σ : Sg) (o1 : Int32 × Sg), rc k k1 x2 σ = some o1 → Mi l yX6_layFrom cX6_layFrom 4 none D E L [.ref (E.2.1 k), .ref (E.2.1 k1), .int x2] σ o1) (k k1 : Nat) (hB : Bk L sh_Search k) (hB1 : Bk L sh_Cut k1) (x2 : Int32) (σ : Sg) (o : Int32 × Sg) (hf : f_X6_layFromR rc k k1 x2 σ = some o) : Mi l yX6_layFrom cX6_layFrom 4 none (D + 2) E L [.ref (E.2.1 (k)), .ref (E.2.1 (k1)), .int x2] σ o :=
  Mi.of RX6 rfl (by decide) (Nat.le_of_ble_eq_true rfl) (fun q hq C => by subst hq; exact k_X6_layFrom_b0 C rc hD hrc k k1 hB hB1 x2 σ hf)
def f_X6_layFrom : Nat → Nat → Nat → Int32 → Sg → Rs
  | 0, _, _, _, _ => none
  | m + 1, k, k1, x2, σ => f_X6_layFromR (f_X6_layFrom m) k k1 x2 σ
theorem m_X6_layFrom {l : Launch} {E : En} {L : List Nat} (m : Nat) : ∀ (k k1 : Nat) (hB : Bk L sh_Search k) (hB1 : Bk L sh_Cut k1) (x2 : Int32) (σ : Sg) (o : Int32 × Sg), f_X6_layFrom m k k1 x2 σ = some o → Mi l yX6_layFrom cX6_layFrom 4 none (2 * m + 8) E L [.ref (E.2.1 k), .ref (E.2.1 k1), .int x2] σ o := by
  induction m with
  | zero => intro k k1 hB hB1 x2 σ o hf; cases (show (none : Rs) = some o from hf)
  | succ m ih =>
    intro k k1 hB hB1 x2 σ o hf
    rw [show 2 * (m + 1) + 8 = 2 * m + 8 + 2 by omega]
    exact m_X6_layFromR (f_X6_layFrom m) (2 * m + 8) (by omega) ih k k1 hB hB1 x2 σ o hf
def f_X6_goThrough (k k1 : Nat) (σ : Sg) : Rs := if (σ (k) 2) = 0 then (p_put σ (k) 3 0 (fun s1 => p_put s1 (k) 4 0 (fun s2 => p_call (f_X0_clear (k + 1) s2) (fun v3 s4 => p_call (f_X6_layFrom 20 k k1 0 s4) (fun v5 s6 => p_bo 1 (p_put s6 (k) 2 1 (fun s7 => some (0, s7)))))))) else (some (0, σ))
set_option maxRecDepth 100000 in
set_option maxHeartbeats 4000000 in
theorem k_X6_goThrough_b0 {q : Mc} {E : En} {L : List Nat} {o : Int32 × Sg} (C : Cx q E L cX6_goThrough 2 RX6 none (49)) (k k1 : Nat) (hB : Bk L sh_Search k) (hB1 : Bk L sh_Cut k1) (σ : Sg) (hf : f_X6_goThrough k k1 σ = some o) : Vx q E L 2 none o 0 [(0, .ref (E.2.1 (k))), (1, .ref (E.2.1 (k1)))] [] σ := by
  unfold f_X6_goThrough at hf
  refine v_aload_n 0 C dX6_goThrough_0 rfl rfl ?_
  refine v_getI (dum := 0) 1 C lk_X6_21 (hB 0 _ rfl) (by decide) rfl dX6_goThrough_1 ?_
  refine v_if_eq (tgt := 8) 4 C dX6_goThrough_4 (by decide) hf (fun hf => ?_) (fun hf => ?_)
  · refine v_aload_n 8 C dX6_goThrough_8 rfl rfl ?_
    refine v_iconst (v := 0) 9 C dX6_goThrough_9 (by decide) ?_
    refine v_putI 10 C lp_X6_25 (hB 0 _ rfl) (by decide) rfl dX6_goThrough_10 hf (fun s1 hf => ?_)
    refine v_aload_n 13 C dX6_goThrough_13 rfl rfl ?_
    refine v_iconst (v := 0) 14 C dX6_goThrough_14 (by decide) ?_
    refine v_putI 15 C lp_X6_29 (hB 0 _ rfl) (by decide) rfl dX6_goThrough_15 hf (fun s2 hf => ?_)
    refine v_aload_n 18 C dX6_goThrough_18 rfl rfl ?_
    refine v_getR 19 C lk_X6_12 (hB 0 _ rfl) (by decide) rfl dX6_goThrough_19 ?_
    refine v_callV (st := []) 22 C [] lm_X6_32 ly_X0_clear ((hB.sub (sh' := sh_Board) 1 rfl) 0 _ rfl) (by decide) dX6_goThrough_22 rfl (by decide) rfl (Nat.le_of_ble_eq_true rfl) (fun o1 h1 => m_X0_clear (k + 1) (hB.sub (sh' := sh_Board) 1 rfl)  s2 o1 h1) hf (fun v3 s4 hf => ?_)
    refine v_aload_n 25 C dX6_goThrough_25 rfl rfl ?_
    refine v_aload_n 26 C dX6_goThrough_26 rfl rfl ?_
    refine v_iconst (v := 0) 27 C dX6_goThrough_27 (by decide) ?_
    refine v_callV (st := []) 28 C [.ref (E.2.1 (k1)), .int 0] lm_X6_35 ly_X6_layFrom (hB 0 _ rfl) (by decide) dX6_goThrough_28 rfl (by decide) rfl (Nat.le_of_ble_eq_true rfl) (fun o1 h1 => m_X6_layFrom 20 k k1 hB hB1 0 s4 o1 h1) hf (fun v5 s6 hf => ?_)
    refine v_aload_n 31 C dX6_goThrough_31 rfl rfl ?_
    refine v_iconst (v := 1) 32 C dX6_goThrough_32 (by decide) ?_
    refine v_putZ 33 C lp_X6_21 (hB 0 _ rfl) (by decide) rfl dX6_goThrough_33 hf (fun s7 hf => ?_)
    exact v_ret (r := 0) 36 C rfl dX6_goThrough_36 hf
  · exact v_ret (r := 0) 7 C rfl dX6_goThrough_7 hf
theorem m_X6_goThrough {l : Launch} {E : En} {L : List Nat} (k k1 : Nat) (hB : Bk L sh_Search k) (hB1 : Bk L sh_Cut k1) (σ : Sg) (o : Int32 × Sg) (hf : f_X6_goThrough k k1 σ = some o) : Mi l yX6_goThrough cX6_goThrough 2 none (49) E L [.ref (E.2.1 (k)), .ref (E.2.1 (k1))] σ o :=
  Mi.of RX6 rfl (by decide) (Nat.le_of_ble_eq_true rfl) (fun q hq C => by subst hq; exact k_X6_goThrough_b0 C k k1 hB hB1  σ hf)
