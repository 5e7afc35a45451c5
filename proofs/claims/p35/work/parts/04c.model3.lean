/-! printed by wip/whole/gen/gen.py: methods as pure functions, and that the machine does them -/
def f_X11_findOrder_b88 (k : Nat) (r7 : Int32 → Int32 → Sg → Rs) (r14 : Int32 → Int32 → Int32 → Sg → Rs) (x1 : Int32) (x2 : Int32) (x3 : Int32) (σ : Sg) : Rs := r14 x1 x2 (x3 + 1) σ
set_option maxRecDepth 100000 in
set_option maxHeartbeats 4000000 in
theorem k_X11_findOrder_b88 {q : Mc} {E : En} {L : List Nat} {o : Int32 × Sg} (C : Cx q E L cX11_findOrder 5 RX11 none (4)) (k : Nat) (hB : Bk L sh_AuntsPuzzleModel k) (r7 : Int32 → Int32 → Sg → Rs) (hr7 : ∀ (x1 : Int32) (x2 : Int32) (σ : Sg), r7 x1 x2 σ = some o → Vx q E L 5 none o 7 [(0, .ref (E.2.1 (k))), (1, .int x1), (2, .int x2)] [] σ) (r14 : Int32 → Int32 → Int32 → Sg → Rs) (hr14 : ∀ (x1 : Int32) (x2 : Int32) (x3 : Int32) (σ : Sg), r14 x1 x2 x3 σ = some o → Vx q E L 5 none o 14 [(0, .ref (E.2.1 (k))), (1, .int x1), (2, .int x2), (3, .int x3)] [] σ) (x1 : Int32) (x2 : Int32) (x3 : Int32) (σ : Sg) (hf : f_X11_findOrder_b88 k r7 r14 x1 x2 x3 σ = some o) : Vx q E L 5 none o 88 [(0, .ref (E.2.1 (k))), (1, .int x1), (2, .int x2), (3, .int x3)] [] σ := by
  unfold f_X11_findOrder_b88 at hf
  refine v_iinc (v := x3 + 1) (lv' := [(0, .ref (E.2.1 (k))), (1, .int x1), (2, .int x2), (3, .int (x3 + 1))]) 88 C dX11_findOrder_88 rfl (by rfl) (by decide) rfl rfl ?_
  refine v_goto (tgt := 14) 91 C dX11_findOrder_91 (by decide) ?_
  exact Vx.lv [0, 1, 2, 3] rfl (hr14 x1 x2 (x3 + 1) σ hf)
def f_X11_findOrder_b62 (k : Nat) (r7 : Int32 → Int32 → Sg → Rs) (r14 : Int32 → Int32 → Int32 → Sg → Rs) (x1 : Int32) (x2 : Int32) (x3 : Int32) (t0 : Int32) (t1 : Int32) (σ : Sg) : Rs := if t0 = t1 then (p_wr σ (k + 21) 16 (σ (k) 35) x3 (fun s1 => p_put s1 (k) 35 ((s1 (k) 35) + 1) (fun s2 => f_X11_findOrder_b88 k r7 r14 x1 x2 x3 s2))) else (f_X11_findOrder_b88 k r7 r14 x1 x2 x3 σ)
set_option maxRecDepth 100000 in
set_option maxHeartbeats 4000000 in
theorem k_X11_findOrder_b62 {q : Mc} {E : En} {L : List Nat} {o : Int32 × Sg} (C : Cx q E L cX11_findOrder 5 RX11 none (4)) (k : Nat) (hB : Bk L sh_AuntsPuzzleModel k) (r7 : Int32 → Int32 → Sg → Rs) (hr7 : ∀ (x1 : Int32) (x2 : Int32) (σ : Sg), r7 x1 x2 σ = some o → Vx q E L 5 none o 7 [(0, .ref (E.2.1 (k))), (1, .int x1), (2, .int x2)] [] σ) (r14 : Int32 → Int32 → Int32 → Sg → Rs) (hr14 : ∀ (x1 : Int32) (x2 : Int32) (x3 : Int32) (σ : Sg), r14 x1 x2 x3 σ = some o → Vx q E L 5 none o 14 [(0, .ref (E.2.1 (k))), (1, .int x1), (2, .int x2), (3, .int x3)] [] σ) (x1 : Int32) (x2 : Int32) (x3 : Int32) (t0 : Int32) (t1 : Int32) (σ : Sg) (hf : f_X11_findOrder_b62 k r7 r14 x1 x2 x3 t0 t1 σ = some o) : Vx q E L 5 none o 62 [(0, .ref (E.2.1 (k))), (1, .int x1), (2, .int x2), (3, .int x3)] [.int t1, .int t0] σ := by
  unfold f_X11_findOrder_b62 at hf
  refine v_icmp_eq (tgt := 68) 62 C dX11_findOrder_62 (by decide) hf (fun hf => ?_) (fun hf => ?_)
  · refine v_aload_n 68 C dX11_findOrder_68 rfl rfl ?_
    refine v_getR 69 C lk_X11_70 (hB 0 _ rfl) (by decide) rfl dX11_findOrder_69 ?_
    refine v_aload_n 72 C dX11_findOrder_72 rfl rfl ?_
    refine v_getI (dum := 0) 73 C lk_X11_223 (hB 0 _ rfl) (by decide) rfl dX11_findOrder_73 ?_
    refine v_iload_n 76 C dX11_findOrder_76 rfl rfl ?_
    refine v_iast 77 C (hB 21 _ rfl) dX11_findOrder_77 hf (fun s1 hf => ?_)
    refine v_aload_n 78 C dX11_findOrder_78 rfl rfl ?_
    refine v_dup 79 C dX11_findOrder_79 rfl ?_
    refine v_getI (dum := 0) 80 C lk_X11_223 (hB 0 _ rfl) (by decide) rfl dX11_findOrder_80 ?_
    refine v_iconst (v := 1) 83 C dX11_findOrder_83 (by decide) ?_
    refine v_iadd 84 C dX11_findOrder_84 ?_
    refine v_putI 85 C lp_X11_223 (hB 0 _ rfl) (by decide) rfl dX11_findOrder_85 hf (fun s2 hf => ?_)
    exact Vx.lv [0, 1, 2, 3] rfl (k_X11_findOrder_b88 C k hB r7 hr7 r14 hr14 x1 x2 x3 s2 hf)
  · refine v_goto (tgt := 88) 65 C dX11_findOrder_65 (by decide) ?_
    exact Vx.lv [0, 1, 2, 3] rfl (k_X11_findOrder_b88 C k hB r7 hr7 r14 hr14 x1 x2 x3 σ hf)
def f_X11_findOrder_b40 (k : Nat) (r7 : Int32 → Int32 → Sg → Rs) (r14 : Int32 → Int32 → Int32 → Sg → Rs) (x1 : Int32) (x2 : Int32) (x3 : Int32) (t0 : Int32) (σ : Sg) : Rs := p_rd σ (k + 5) 16 x3 (fun v1 => if 0 ≤ v1 then (f_X11_findOrder_b88 k r7 r14 x1 x2 x3 σ) else (if x2 = 0 then (f_X11_findOrder_b62 k r7 r14 x1 x2 x3 t0 1 σ) else (f_X11_findOrder_b62 k r7 r14 x1 x2 x3 t0 0 σ)))
set_option maxRecDepth 100000 in
set_option maxHeartbeats 4000000 in
theorem k_X11_findOrder_b40 {q : Mc} {E : En} {L : List Nat} {o : Int32 × Sg} (C : Cx q E L cX11_findOrder 5 RX11 none (4)) (k : Nat) (hB : Bk L sh_AuntsPuzzleModel k) (r7 : Int32 → Int32 → Sg → Rs) (hr7 : ∀ (x1 : Int32) (x2 : Int32) (σ : Sg), r7 x1 x2 σ = some o → Vx q E L 5 none o 7 [(0, .ref (E.2.1 (k))), (1, .int x1), (2, .int x2)] [] σ) (r14 : Int32 → Int32 → Int32 → Sg → Rs) (hr14 : ∀ (x1 : Int32) (x2 : Int32) (x3 : Int32) (σ : Sg), r14 x1 x2 x3 σ = some o → Vx q E L 5 none o 14 [(0, .ref (E.2.1 (k))), (1, .int x1), (2, .int x2), (3, .int x3)] [] σ) (x1 : Int32) (x2 : Int32) (x3 : Int32) (t0 : Int32) (σ : Sg) (hf : f_X11_findOrder_b40 k r7 r14 x1 x2 x3 t0 σ = some o) : Vx q E L 5 none o 40 [(0, .ref (E.2.1 (k))), (1, .int x1), (2, .int x2), (3, .int x3)] [.int t0] σ := by
  unfold f_X11_findOrder_b40 at hf
  refine v_istore (lv' := [(0, .ref (E.2.1 (k))), (1, .int x1), (2, .int x2), (3, .int x3), (4, .int t0)]) 40 C dX11_findOrder_40 (by decide) rfl rfl ?_
  refine v_aload_n 42 C dX11_findOrder_42 rfl rfl ?_
  refine v_getR 43 C lk_X11_22 (hB 0 _ rfl) (by decide) rfl dX11_findOrder_43 ?_
  refine v_iload_n 46 C dX11_findOrder_46 rfl rfl ?_
  refine v_iald 47 C (hB 5 _ rfl) dX11_findOrder_47 hf (fun v1 hf => ?_)
  refine v_if_ge (tgt := 88) 48 C dX11_findOrder_48 (by decide) hf (fun hf => ?_) (fun hf => ?_)
  · exact Vx.lv [0, 1, 2, 3] rfl (k_X11_findOrder_b88 C k hB r7 hr7 r14 hr14 x1 x2 x3 σ hf)
  · refine v_iload 51 C dX11_findOrder_51 rfl ?_
    refine v_iload_n 53 C dX11_findOrder_53 rfl rfl ?_
    refine v_if_ne (tgt := 61) 54 C dX11_findOrder_54 (by decide) hf (fun hf => ?_) (fun hf => ?_)
    · refine v_iconst (v := 0) 61 C dX11_findOrder_61 (by decide) ?_
      exact Vx.lv [0, 1, 2, 3] rfl (k_X11_findOrder_b62 C k hB r7 hr7 r14 hr14 x1 x2 x3 t0 0 σ hf)
    · refine v_iconst (v := 1) 57 C dX11_findOrder_57 (by decide) ?_
      refine v_goto (tgt := 62) 58 C dX11_findOrder_58 (by decide) ?_
      exact Vx.lv [0, 1, 2, 3] rfl (k_X11_findOrder_b62 C k hB r7 hr7 r14 hr14 x1 x2 x3 t0 1 σ hf)
def f_X11_findOrder_b35 (k : Nat) (r7 : Int32 → Int32 → Sg → Rs) (r14 : Int32 → Int32 → Int32 → Sg → Rs) (x1 : Int32) (x2 : Int32) (x3 : Int32) (σ : Sg) : Rs := f_X11_findOrder_b40 k r7 r14 x1 x2 x3 1 σ
set_option maxRecDepth 100000 in
set_option maxHeartbeats 4000000 in
theorem k_X11_findOrder_b35 {q : Mc} {E : En} {L : List Nat} {o : Int32 × Sg} (C : Cx q E L cX11_findOrder 5 RX11 none (4)) (k : Nat) (hB : Bk L sh_AuntsPuzzleModel k) (r7 : Int32 → Int32 → Sg → Rs) (hr7 : ∀ (x1 : Int32) (x2 : Int32) (σ : Sg), r7 x1 x2 σ = some o → Vx q E L 5 none o 7 [(0, .ref (E.2.1 (k))), (1, .int x1), (2, .int x2)] [] σ) (r14 : Int32 → Int32 → Int32 → Sg → Rs) (hr14 : ∀ (x1 : Int32) (x2 : Int32) (x3 : Int32) (σ : Sg), r14 x1 x2 x3 σ = some o → Vx q E L 5 none o 14 [(0, .ref (E.2.1 (k))), (1, .int x1), (2, .int x2), (3, .int x3)] [] σ) (x1 : Int32) (x2 : Int32) (x3 : Int32) (σ : Sg) (hf : f_X11_findOrder_b35 k r7 r14 x1 x2 x3 σ = some o) : Vx q E L 5 none o 35 [(0, .ref (E.2.1 (k))), (1, .int x1), (2, .int x2), (3, .int x3)] [] σ := by
  unfold f_X11_findOrder_b35 at hf
  refine v_iconst (v := 1) 35 C dX11_findOrder_35 (by decide) ?_
  refine v_goto (tgt := 40) 36 C dX11_findOrder_36 (by decide) ?_
  exact Vx.lv [0, 1, 2, 3] rfl (k_X11_findOrder_b40 C k hB r7 hr7 r14 hr14 x1 x2 x3 1 σ hf)
def f_X11_findOrder_b14 (k : Nat) (r7 : Int32 → Int32 → Sg → Rs) : Nat → Int32 → Int32 → Int32 → Sg → Rs
  | 0, _, _, _, _ => none
  | n + 1, x1, x2, x3, σ => p_call (f_X11_cells k σ) (fun v1 s2 => if v1 ≤ x3 then (r7 x1 (x2 + 1) s2) else (if x1 = 1 then (p_call (f_X11_isRim k x3 s2) (fun v3 s4 => if v3 = 0 then (f_X11_findOrder_b40 k r7 (f_X11_findOrder_b14 k r7 n) x1 x2 x3 0 s4) else (f_X11_findOrder_b35 k r7 (f_X11_findOrder_b14 k r7 n) x1 x2 x3 s4))) else (f_X11_findOrder_b35 k r7 (f_X11_findOrder_b14 k r7 n) x1 x2 x3 s2)))
set_option maxRecDepth 100000 in
set_option maxHeartbeats 4000000 in
theorem k_X11_findOrder_b14 {q : Mc} {E : En} {L : List Nat} {o : Int32 × Sg} (C : Cx q E L cX11_findOrder 5 RX11 none (4)) (k : Nat) (hB : Bk L sh_AuntsPuzzleModel k) (r7 : Int32 → Int32 → Sg → Rs) (hr7 : ∀ (x1 : Int32) (x2 : Int32) (σ : Sg), r7 x1 x2 σ = some o → Vx q E L 5 none o 7 [(0, .ref (E.2.1 (k))), (1, .int x1), (2, .int x2)] [] σ) (n : Nat) : ∀ (x1 : Int32) (x2 : Int32) (x3 : Int32) (σ : Sg), f_X11_findOrder_b14 k r7 n x1 x2 x3 σ = some o → Vx q E L 5 none o 14 [(0, .ref (E.2.1 (k))), (1, .int x1), (2, .int x2), (3, .int x3)] [] σ := by
  induction n with
  | zero => intro x1 x2 x3 σ hf; cases (show (none : Rs) = some o from hf)
  | succ n ih =>
    intro x1 x2 x3 σ hf
    rw [f_X11_findOrder_b14] at hf
    refine v_iload_n 14 C dX11_findOrder_14 rfl rfl ?_
    refine v_aload_n 15 C dX11_findOrder_15 rfl rfl ?_
    refine v_callV (st := [.int x3]) 16 C [] lm_X11_91 ly_X11_cells (hB 0 _ rfl) (by decide) dX11_findOrder_16 rfl (by decide) rfl (Nat.le_of_ble_eq_true rfl) (fun o1 h1 => m_X11_cells k hB  σ o1 h1) hf (fun v1 s2 hf => ?_)
    refine v_icmp_ge (tgt := 94) 19 C dX11_findOrder_19 (by decide) hf (fun hf => ?_) (fun hf => ?_)
    · refine v_iinc (v := x2 + 1) (lv' := [(0, .ref (E.2.1 (k))), (1, .int x1), (2, .int (x2 + 1)), (3, .int x3)]) 94 C dX11_findOrder_94 rfl (by rfl) (by decide) rfl rfl ?_
      refine v_goto (tgt := 7) 97 C dX11_findOrder_97 (by decide) ?_
      exact Vx.lv [0, 1, 2] rfl (hr7 x1 (x2 + 1) s2 hf)
    · refine v_iload_n 22 C dX11_findOrder_22 rfl rfl ?_
      refine v_iconst (v := 1) 23 C dX11_findOrder_23 (by decide) ?_
      refine v_icmp_ne (tgt := 35) 24 C dX11_findOrder_24 (by decide) hf (fun hf => ?_) (fun hf => ?_)
      · exact Vx.lv [0, 1, 2, 3] rfl (k_X11_findOrder_b35 C k hB r7 hr7 (f_X11_findOrder_b14 k r7 n) ih x1 x2 x3 s2 hf)
      · refine v_aload_n 27 C dX11_findOrder_27 rfl rfl ?_
        refine v_iload_n 28 C dX11_findOrder_28 rfl rfl ?_
        refine v_callV (st := []) 29 C [.int x3] lm_X11_187 ly_X11_isRim (hB 0 _ rfl) (by decide) dX11_findOrder_29 rfl (by decide) rfl (Nat.le_of_ble_eq_true rfl) (fun o1 h1 => m_X11_isRim k hB x3 s2 o1 h1) hf (fun v3 s4 hf => ?_)
        refine v_if_eq (tgt := 39) 32 C dX11_findOrder_32 (by decide) hf (fun hf => ?_) (fun hf => ?_)
        · refine v_iconst (v := 0) 39 C dX11_findOrder_39 (by decide) ?_
          exact Vx.lv [0, 1, 2, 3] rfl (k_X11_findOrder_b40 C k hB r7 hr7 (f_X11_findOrder_b14 k r7 n) ih x1 x2 x3 0 s4 hf)
        · exact Vx.lv [0, 1, 2, 3] rfl (k_X11_findOrder_b35 C k hB r7 hr7 (f_X11_findOrder_b14 k r7 n) ih x1 x2 x3 s4 hf)
def f_X11_findOrder_b7 (k : Nat)  : Nat → Int32 → Int32 → Sg → Rs
  | 0, _, _, _ => none
  | n + 1, x1, x2, σ => if 2 ≤ x2 then (some (0, σ)) else (f_X11_findOrder_b14 k (f_X11_findOrder_b7 k n) fu x1 x2 0 σ)
set_option maxRecDepth 100000 in
set_option maxHeartbeats 4000000 in
theorem k_X11_findOrder_b7 {q : Mc} {E : En} {L : List Nat} {o : Int32 × Sg} (C : Cx q E L cX11_findOrder 5 RX11 none (4)) (k : Nat) (hB : Bk L sh_AuntsPuzzleModel k) (n : Nat) : ∀ (x1 : Int32) (x2 : Int32) (σ : Sg), f_X11_findOrder_b7 k n x1 x2 σ = some o → Vx q E L 5 none o 7 [(0, .ref (E.2.1 (k))), (1, .int x1), (2, .int x2)] [] σ := by
  induction n with
  | zero => intro x1 x2 σ hf; cases (show (none : Rs) = some o from hf)
  | succ n ih =>
    intro x1 x2 σ hf
    rw [f_X11_findOrder_b7] at hf
    refine v_iload_n 7 C dX11_findOrder_7 rfl rfl ?_
    refine v_iconst (v := 2) 8 C dX11_findOrder_8 (by decide) ?_
    refine v_icmp_ge (tgt := 100) 9 C dX11_findOrder_9 (by decide) hf (fun hf => ?_) (fun hf => ?_)
    · exact v_ret (r := 0) 100 C rfl dX11_findOrder_100 hf
    · refine v_iconst (v := 0) 12 C dX11_findOrder_12 (by decide) ?_
      refine v_istore_n (lv' := [(0, .ref (E.2.1 (k))), (1, .int x1), (2, .int x2), (3, .int 0)]) 13 C dX11_findOrder_13 rfl (by decide) rfl rfl ?_
      exact Vx.lv [0, 1, 2, 3] rfl (k_X11_findOrder_b14 C k hB (f_X11_findOrder_b7 k n) ih fu x1 x2 0 σ hf)
def f_X11_findOrder (k : Nat) (x1 : Int32) (σ : Sg) : Rs := p_put σ (k) 35 0 (fun s1 => f_X11_findOrder_b7 k fu x1 0 s1)
set_option maxRecDepth 100000 in
set_option maxHeartbeats 4000000 in
theorem k_X11_findOrder_b0 {q : Mc} {E : En} {L : List Nat} {o : Int32 × Sg} (C : Cx q E L cX11_findOrder 5 RX11 none (4)) (k : Nat) (hB : Bk L sh_AuntsPuzzleModel k) (x1 : Int32) (σ : Sg) (hf : f_X11_findOrder k x1 σ = some o) : Vx q E L 5 none o 0 [(0, .ref (E.2.1 (k))), (1, .int x1)] [] σ := by
  unfold f_X11_findOrder at hf
  refine v_aload_n 0 C dX11_findOrder_0 rfl rfl ?_
  refine v_iconst (v := 0) 1 C dX11_findOrder_1 (by decide) ?_
  refine v_putI 2 C lp_X11_223 (hB 0 _ rfl) (by decide) rfl dX11_findOrder_2 hf (fun s1 hf => ?_)
  refine v_iconst (v := 0) 5 C dX11_findOrder_5 (by decide) ?_
  refine v_istore_n (lv' := [(0, .ref (E.2.1 (k))), (1, .int x1), (2, .int 0)]) 6 C dX11_findOrder_6 rfl (by decide) rfl rfl ?_
  exact Vx.lv [0, 1, 2] rfl (k_X11_findOrder_b7 C k hB fu x1 0 s1 hf)
theorem m_X11_findOrder {l : Launch} {E : En} {L : List Nat} (k : Nat) (hB : Bk L sh_AuntsPuzzleModel k) (x1 : Int32) (σ : Sg) (o : Int32 × Sg) (hf : f_X11_findOrder k x1 σ = some o) : Mi l yX11_findOrder cX11_findOrder 5 none (4) E L [.ref (E.2.1 (k)), .int x1] σ o :=
  Mi.of RX11 rfl (by decide) (Nat.le_of_ble_eq_true rfl) (fun q hq C => by subst hq; exact k_X11_findOrder_b0 C k hB x1 σ hf)
def f_X11_nubs_b24 (k : Nat) (r4 : Int32 → Int32 → Int32 → Sg → Rs) (x1 : Int32) (x3 : Int32) (t0 : Int32) (t1 : Int32) (σ : Sg) : Rs := r4 x1 (t0 + t1) (x3 + 1) σ
set_option maxRecDepth 100000 in
set_option maxHeartbeats 4000000 in
theorem k_X11_nubs_b24 {q : Mc} {E : En} {L : List Nat} {o : Int32 × Sg} (C : Cx q E L cX11_nubs 4 RX11 (some .int) (4)) (k : Nat) (hB : Bk L sh_AuntsPuzzleModel k) (r4 : Int32 → Int32 → Int32 → Sg → Rs) (hr4 : ∀ (x1 : Int32) (x2 : Int32) (x3 : Int32) (σ : Sg), r4 x1 x2 x3 σ = some o → Vx q E L 4 (some .int) o 4 [(0, .ref (E.2.1 (k))), (1, .int x1), (2, .int x2), (3, .int x3)] [] σ) (x1 : Int32) (x3 : Int32) (t0 : Int32) (t1 : Int32) (σ : Sg) (hf : f_X11_nubs_b24 k r4 x1 x3 t0 t1 σ = some o) : Vx q E L 4 (some .int) o 24 [(0, .ref (E.2.1 (k))), (1, .int x1), (3, .int x3)] [.int t1, .int t0] σ := by
  unfold f_X11_nubs_b24 at hf
  refine v_iadd 24 C dX11_nubs_24 ?_
  refine v_istore_n (lv' := [(0, .ref (E.2.1 (k))), (1, .int x1), (3, .int x3), (2, .int (t0 + t1))]) 25 C dX11_nubs_25 rfl (by decide) rfl rfl ?_
  refine v_iinc (v := x3 + 1) (lv' := [(0, .ref (E.2.1 (k))), (1, .int x1), (3, .int (x3 + 1)), (2, .int (t0 + t1))]) 26 C dX11_nubs_26 rfl (by rfl) (by decide) rfl rfl ?_
  refine v_goto (tgt := 4) 29 C dX11_nubs_29 (by decide) ?_
  exact Vx.lv [0, 1, 3, 2] rfl (hr4 x1 (t0 + t1) (x3 + 1) σ hf)
def f_X11_nubs_b4 (k : Nat)  : Nat → Int32 → Int32 → Int32 → Sg → Rs
  | 0, _, _, _, _ => none
  | n + 1, x1, x2, x3, σ => if 4 ≤ x3 then (some (x2, σ)) else (p_call (f_X11_sideOf k x1 x3 σ) (fun v1 s2 => if v1 ≤ 0 then (f_X11_nubs_b24 k (f_X11_nubs_b4 k n) x1 x3 x2 0 s2) else (f_X11_nubs_b24 k (f_X11_nubs_b4 k n) x1 x3 x2 1 s2)))
set_option maxRecDepth 100000 in
set_option maxHeartbeats 4000000 in
theorem k_X11_nubs_b4 {q : Mc} {E : En} {L : List Nat} {o : Int32 × Sg} (C : Cx q E L cX11_nubs 4 RX11 (some .int) (4)) (k : Nat) (hB : Bk L sh_AuntsPuzzleModel k) (n : Nat) : ∀ (x1 : Int32) (x2 : Int32) (x3 : Int32) (σ : Sg), f_X11_nubs_b4 k n x1 x2 x3 σ = some o → Vx q E L 4 (some .int) o 4 [(0, .ref (E.2.1 (k))), (1, .int x1), (2, .int x2), (3, .int x3)] [] σ := by
  induction n with
  | zero => intro x1 x2 x3 σ hf; cases (show (none : Rs) = some o from hf)
  | succ n ih =>
    intro x1 x2 x3 σ hf
    rw [f_X11_nubs_b4] at hf
    refine v_iload_n 4 C dX11_nubs_4 rfl rfl ?_
    refine v_iconst (v := 4) 5 C dX11_nubs_5 (by decide) ?_
    refine v_icmp_ge (tgt := 32) 6 C dX11_nubs_6 (by decide) hf (fun hf => ?_) (fun hf => ?_)
    · refine v_iload_n 32 C dX11_nubs_32 rfl rfl ?_
      exact v_iret 33 C rfl dX11_nubs_33 hf
    · refine v_iload_n 9 C dX11_nubs_9 rfl rfl ?_
      refine v_aload_n 10 C dX11_nubs_10 rfl rfl ?_
      refine v_iload_n 11 C dX11_nubs_11 rfl rfl ?_
      refine v_iload_n 12 C dX11_nubs_12 rfl rfl ?_
      refine v_callV (st := [.int x2]) 13 C [.int x1, .int x3] lm_X11_102 ly_X11_sideOf (hB 0 _ rfl) (by decide) dX11_nubs_13 rfl (by decide) rfl (Nat.le_of_ble_eq_true rfl) (fun o1 h1 => m_X11_sideOf k hB x1 x3 σ o1 h1) hf (fun v1 s2 hf => ?_)
      refine v_if_le (tgt := 23) 16 C dX11_nubs_16 (by decide) hf (fun hf => ?_) (fun hf => ?_)
      · refine v_iconst (v := 0) 23 C dX11_nubs_23 (by decide) ?_
        exact Vx.lv [0, 1, 3] rfl (k_X11_nubs_b24 C k hB (f_X11_nubs_b4 k n) ih x1 x3 x2 0 s2 hf)
      · refine v_iconst (v := 1) 19 C dX11_nubs_19 (by decide) ?_
        refine v_goto (tgt := 24) 20 C dX11_nubs_20 (by decide) ?_
        exact Vx.lv [0, 1, 3] rfl (k_X11_nubs_b24 C k hB (f_X11_nubs_b4 k n) ih x1 x3 x2 1 s2 hf)
def f_X11_nubs (k : Nat) (x1 : Int32) (σ : Sg) : Rs := f_X11_nubs_b4 k fu x1 0 0 σ
set_option maxRecDepth 100000 in
set_option maxHeartbeats 4000000 in
theorem k_X11_nubs_b0 {q : Mc} {E : En} {L : List Nat} {o : Int32 × Sg} (C : Cx q E L cX11_nubs 4 RX11 (some .int) (4)) (k : Nat) (hB : Bk L sh_AuntsPuzzleModel k) (x1 : Int32) (σ : Sg) (hf : f_X11_nubs k x1 σ = some o) : Vx q E L 4 (some .int) o 0 [(0, .ref (E.2.1 (k))), (1, .int x1)] [] σ := by
  unfold f_X11_nubs at hf
  refine v_iconst (v := 0) 0 C dX11_nubs_0 (by decide) ?_
  refine v_istore_n (lv' := [(0, .ref (E.2.1 (k))), (1, .int x1), (2, .int 0)]) 1 C dX11_nubs_1 rfl (by decide) rfl rfl ?_
  refine v_iconst (v := 0) 2 C dX11_nubs_2 (by decide) ?_
  refine v_istore_n (lv' := [(0, .ref (E.2.1 (k))), (1, .int x1), (2, .int 0), (3, .int 0)]) 3 C dX11_nubs_3 rfl (by decide) rfl rfl ?_
  exact Vx.lv [0, 1, 2, 3] rfl (k_X11_nubs_b4 C k hB fu x1 0 0 σ hf)
theorem m_X11_nubs {l : Launch} {E : En} {L : List Nat} (k : Nat) (hB : Bk L sh_AuntsPuzzleModel k) (x1 : Int32) (σ : Sg) (o : Int32 × Sg) (hf : f_X11_nubs k x1 σ = some o) : Mi l yX11_nubs cX11_nubs 4 (some .int) (4) E L [.ref (E.2.1 (k)), .int x1] σ o :=
  Mi.of RX11 rfl (by decide) (Nat.le_of_ble_eq_true rfl) (fun q hq C => by subst hq; exact k_X11_nubs_b0 C k hB x1 σ hf)
def f_X11_hasFlat_b2 (k : Nat)  : Nat → Int32 → Int32 → Sg → Rs
  | 0, _, _, _ => none
  | n + 1, x1, x2, σ => if 4 ≤ x2 then (some (0, σ)) else (p_call (f_X11_sideOf k x1 x2 σ) (fun v1 s2 => if v1 = 0 then (some (1, s2)) else (f_X11_hasFlat_b2 k n x1 (x2 + 1) s2)))
set_option maxRecDepth 100000 in
set_option maxHeartbeats 4000000 in
theorem k_X11_hasFlat_b2 {q : Mc} {E : En} {L : List Nat} {o : Int32 × Sg} (C : Cx q E L cX11_hasFlat 3 RX11 (some .boolean) (4)) (k : Nat) (hB : Bk L sh_AuntsPuzzleModel k) (n : Nat) : ∀ (x1 : Int32) (x2 : Int32) (σ : Sg), f_X11_hasFlat_b2 k n x1 x2 σ = some o → Vx q E L 3 (some .boolean) o 2 [(0, .ref (E.2.1 (k))), (1, .int x1), (2, .int x2)] [] σ := by
  induction n with
  | zero => intro x1 x2 σ hf; cases (show (none : Rs) = some o from hf)
  | succ n ih =>
    intro x1 x2 σ hf
    rw [f_X11_hasFlat_b2] at hf
    refine v_iload_n 2 C dX11_hasFlat_2 rfl rfl ?_
    refine v_iconst (v := 4) 3 C dX11_hasFlat_3 (by decide) ?_
    refine v_icmp_ge (tgt := 24) 4 C dX11_hasFlat_4 (by decide) hf (fun hf => ?_) (fun hf => ?_)
    · refine v_iconst (v := 0) 24 C dX11_hasFlat_24 (by decide) ?_
      exact v_zretN 25 C rfl dX11_hasFlat_25 (by decide) hf
    · refine v_aload_n 7 C dX11_hasFlat_7 rfl rfl ?_
      refine v_iload_n 8 C dX11_hasFlat_8 rfl rfl ?_
      refine v_iload_n 9 C dX11_hasFlat_9 rfl rfl ?_
      refine v_callV (st := []) 10 C [.int x1, .int x2] lm_X11_102 ly_X11_sideOf (hB 0 _ rfl) (by decide) dX11_hasFlat_10 rfl (by decide) rfl (Nat.le_of_ble_eq_true rfl) (fun o1 h1 => m_X11_sideOf k hB x1 x2 σ o1 h1) hf (fun v1 s2 hf => ?_)
      refine v_if_ne (tgt := 18) 13 C dX11_hasFlat_13 (by decide) hf (fun hf => ?_) (fun hf => ?_)
      · refine v_iinc (v := x2 + 1) (lv' := [(0, .ref (E.2.1 (k))), (1, .int x1), (2, .int (x2 + 1))]) 18 C dX11_hasFlat_18 rfl (by rfl) (by decide) rfl rfl ?_
        refine v_goto (tgt := 2) 21 C dX11_hasFlat_21 (by decide) ?_
        exact Vx.lv [0, 1, 2] rfl (ih x1 (x2 + 1) s2 hf)
      · refine v_iconst (v := 1) 16 C dX11_hasFlat_16 (by decide) ?_
        exact v_zretN 17 C rfl dX11_hasFlat_17 (by decide) hf
def f_X11_hasFlat (k : Nat) (x1 : Int32) (σ : Sg) : Rs := f_X11_hasFlat_b2 k fu x1 0 σ
set_option maxRecDepth 100000 in
set_option maxHeartbeats 4000000 in
theorem k_X11_hasFlat_b0 {q : Mc} {E : En} {L : List Nat} {o : Int32 × Sg} (C : Cx q E L cX11_hasFlat 3 RX11 (some .boolean) (4)) (k : Nat) (hB : Bk L sh_AuntsPuzzleModel k) (x1 : Int32) (σ : Sg) (hf : f_X11_hasFlat k x1 σ = some o) : Vx q E L 3 (some .boolean) o 0 [(0, .ref (E.2.1 (k))), (1, .int x1)] [] σ := by
  unfold f_X11_hasFlat at hf
  refine v_iconst (v := 0) 0 C dX11_hasFlat_0 (by decide) ?_
  refine v_istore_n (lv' := [(0, .ref (E.2.1 (k))), (1, .int x1), (2, .int 0)]) 1 C dX11_hasFlat_1 rfl (by decide) rfl rfl ?_
  exact Vx.lv [0, 1, 2] rfl (k_X11_hasFlat_b2 C k hB fu x1 0 σ hf)
theorem m_X11_hasFlat {l : Launch} {E : En} {L : List Nat} (k : Nat) (hB : Bk L sh_AuntsPuzzleModel k) (x1 : Int32) (σ : Sg) (o : Int32 × Sg) (hf : f_X11_hasFlat k x1 σ = some o) : Mi l yX11_hasFlat cX11_hasFlat 3 (some .boolean) (4) E L [.ref (E.2.1 (k)), .int x1] σ o :=
  Mi.of RX11 rfl (by decide) (Nat.le_of_ble_eq_true rfl) (fun q hq C => by subst hq; exact k_X11_hasFlat_b0 C k hB x1 σ hf)
def f_X11_isAsked_b46 (k : Nat) (σ : Sg) : Rs := some (1, σ)
set_option maxRecDepth 100000 in
set_option maxHeartbeats 4000000 in
theorem k_X11_isAsked_b46 {q : Mc} {E : En} {L : List Nat} {o : Int32 × Sg} (C : Cx q E L cX11_isAsked 4 RX11 (some .boolean) (5)) (k : Nat) (hB : Bk L sh_AuntsPuzzleModel k) (σ : Sg) (hf : f_X11_isAsked_b46 k σ = some o) : Vx q E L 4 (some .boolean) o 46 [] [] σ := by
  unfold f_X11_isAsked_b46 at hf
  refine v_iconst (v := 1) 46 C dX11_isAsked_46 (by decide) ?_
  refine v_goto (tgt := 51) 47 C dX11_isAsked_47 (by decide) ?_
  exact v_zretN 51 C rfl dX11_isAsked_51 (by decide) hf
def f_X11_isAsked (k : Nat) (x1 : Int32) (x2 : Int32) (x3 : Int32) (σ : Sg) : Rs := if x1 = 0 then (some (1, σ)) else (if x1 = 1 then (p_call (f_X11_isRim k x3 σ) (fun v1 s2 => if v1 = 0 then (f_X11_isAsked_b46 k s2) else (p_call (f_X11_hasFlat k x2 s2) (fun v3 s4 => if v3 = 0 then (some (0, s4)) else (f_X11_isAsked_b46 k s4))))) else (if x1 = 2 then (p_rd σ (k + 4) 16 x2 (fun v5 => p_rd σ (k + 4) 16 x3 (fun v6 => if v5 = v6 then (some (1, σ)) else (some (0, σ))))) else (p_call (f_X11_nubs k x2 σ) (fun v7 s8 => p_call (f_X11_nubs k x3 s8) (fun v9 s10 => if v7 = v9 then (some (1, s10)) else (some (0, s10)))))))
set_option maxRecDepth 100000 in
set_option maxHeartbeats 4000000 in
theorem k_X11_isAsked_b0 {q : Mc} {E : En} {L : List Nat} {o : Int32 × Sg} (C : Cx q E L cX11_isAsked 4 RX11 (some .boolean) (5)) (k : Nat) (hB : Bk L sh_AuntsPuzzleModel k) (x1 : Int32) (x2 : Int32) (x3 : Int32) (σ : Sg) (hf : f_X11_isAsked k x1 x2 x3 σ = some o) : Vx q E L 4 (some .boolean) o 0 [(0, .ref (E.2.1 (k))), (1, .int x1), (2, .int x2), (3, .int x3)] [] σ := by
  unfold f_X11_isAsked at hf
  refine v_iload_n 0 C dX11_isAsked_0 rfl rfl ?_
  refine v_case (v := 0) hf (fun hx hf => ?_) (fun hn0 hf => ?_)
  · refine v_tabIn (tgt := 28) 1 C hx dX11_isAsked_1 (by decide) rfl (by decide) ?_
    refine v_iconst (v := 1) 28 C dX11_isAsked_28 (by decide) ?_
    exact v_zretN 29 C rfl dX11_isAsked_29 (by decide) hf
  refine v_case (v := 1) hf (fun hx hf => ?_) (fun hn1 hf => ?_)
  · refine v_tabIn (tgt := 30) 1 C hx dX11_isAsked_1 (by decide) rfl (by decide) ?_
    refine v_aload_n 30 C dX11_isAsked_30 rfl rfl ?_
    refine v_iload_n 31 C dX11_isAsked_31 rfl rfl ?_
    refine v_callV (st := []) 32 C [.int x3] lm_X11_187 ly_X11_isRim (hB 0 _ rfl) (by decide) dX11_isAsked_32 rfl (by decide) rfl (Nat.le_of_ble_eq_true rfl) (fun o1 h1 => m_X11_isRim k hB x3 σ o1 h1) hf (fun v1 s2 hf => ?_)
    refine v_if_eq (tgt := 46) 35 C dX11_isAsked_35 (by decide) hf (fun hf => ?_) (fun hf => ?_)
    · exact Vx.lv [] rfl (k_X11_isAsked_b46 C k hB s2 hf)
    · refine v_aload_n 38 C dX11_isAsked_38 rfl rfl ?_
      refine v_iload_n 39 C dX11_isAsked_39 rfl rfl ?_
      refine v_callV (st := []) 40 C [.int x2] lm_X11_226 ly_X11_hasFlat (hB 0 _ rfl) (by decide) dX11_isAsked_40 rfl (by decide) rfl (Nat.le_of_ble_eq_true rfl) (fun o1 h1 => m_X11_hasFlat k hB x2 s2 o1 h1) hf (fun v3 s4 hf => ?_)
      refine v_if_eq (tgt := 50) 43 C dX11_isAsked_43 (by decide) hf (fun hf => ?_) (fun hf => ?_)
      · refine v_iconst (v := 0) 50 C dX11_isAsked_50 (by decide) ?_
        exact v_zretN 51 C rfl dX11_isAsked_51 (by decide) hf
      · exact Vx.lv [] rfl (k_X11_isAsked_b46 C k hB s4 hf)
  refine v_case (v := 2) hf (fun hx hf => ?_) (fun hn2 hf => ?_)
  · refine v_tabIn (tgt := 52) 1 C hx dX11_isAsked_1 (by decide) rfl (by decide) ?_
    refine v_aload_n 52 C dX11_isAsked_52 rfl rfl ?_
    refine v_getR 53 C lk_X11_19 (hB 0 _ rfl) (by decide) rfl dX11_isAsked_53 ?_
    refine v_iload_n 56 C dX11_isAsked_56 rfl rfl ?_
    refine v_iald 57 C (hB 4 _ rfl) dX11_isAsked_57 hf (fun v5 hf => ?_)
    refine v_aload_n 58 C dX11_isAsked_58 rfl rfl ?_
    refine v_getR 59 C lk_X11_19 (hB 0 _ rfl) (by decide) rfl dX11_isAsked_59 ?_
    refine v_iload_n 62 C dX11_isAsked_62 rfl rfl ?_
    refine v_iald 63 C (hB 4 _ rfl) dX11_isAsked_63 hf (fun v6 hf => ?_)
    refine v_icmp_ne (tgt := 71) 64 C dX11_isAsked_64 (by decide) hf (fun hf => ?_) (fun hf => ?_)
    · refine v_iconst (v := 0) 71 C dX11_isAsked_71 (by decide) ?_
      exact v_zretN 72 C rfl dX11_isAsked_72 (by decide) hf
    · refine v_iconst (v := 1) 67 C dX11_isAsked_67 (by decide) ?_
      refine v_goto (tgt := 72) 68 C dX11_isAsked_68 (by decide) ?_
      exact v_zretN 72 C rfl dX11_isAsked_72 (by decide) hf
  refine v_tabOut (tgt := 73) 1 C dX11_isAsked_1 (by have g0 := lv_neT hn0 (show (0 : Int32).toInt = 0 from rfl); have g1 := lv_neT hn1 (show (1 : Int32).toInt = 1 from rfl); have g2 := lv_neT hn2 (show (2 : Int32).toInt = 2 from rfl); omega) (by decide) ?_
  refine v_aload_n 73 C dX11_isAsked_73 rfl rfl ?_
  refine v_iload_n 74 C dX11_isAsked_74 rfl rfl ?_
  refine v_callV (st := []) 75 C [.int x2] lm_X11_229 ly_X11_nubs (hB 0 _ rfl) (by decide) dX11_isAsked_75 rfl (by decide) rfl (Nat.le_of_ble_eq_true rfl) (fun o1 h1 => m_X11_nubs k hB x2 σ o1 h1) hf (fun v7 s8 hf => ?_)
  refine v_aload_n 78 C dX11_isAsked_78 rfl rfl ?_
  refine v_iload_n 79 C dX11_isAsked_79 rfl rfl ?_
  refine v_callV (st := [.int v7]) 80 C [.int x3] lm_X11_229 ly_X11_nubs (hB 0 _ rfl) (by decide) dX11_isAsked_80 rfl (by decide) rfl (Nat.le_of_ble_eq_true rfl) (fun o1 h1 => m_X11_nubs k hB x3 s8 o1 h1) hf (fun v9 s10 hf => ?_)
  refine v_icmp_ne (tgt := 90) 83 C dX11_isAsked_83 (by decide) hf (fun hf => ?_) (fun hf => ?_)
  · refine v_iconst (v := 0) 90 C dX11_isAsked_90 (by decide) ?_
    exact v_zretN 91 C rfl dX11_isAsked_91 (by decide) hf
  · refine v_iconst (v := 1) 86 C dX11_isAsked_86 (by decide) ?_
    refine v_goto (tgt := 91) 87 C dX11_isAsked_87 (by decide) ?_
    exact v_zretN 91 C rfl dX11_isAsked_91 (by decide) hf
theorem m_X11_isAsked {l : Launch} {E : En} {L : List Nat} (k : Nat) (hB : Bk L sh_AuntsPuzzleModel k) (x1 : Int32) (x2 : Int32) (x3 : Int32) (σ : Sg) (o : Int32 × Sg) (hf : f_X11_isAsked k x1 x2 x3 σ = some o) : Mi l yX11_isAsked cX11_isAsked 4 (some .boolean) (5) E L [.ref (E.2.1 (k)), .int x1, .int x2, .int x3] σ o :=
  Mi.of RX11 rfl (by decide) (Nat.le_of_ble_eq_true rfl) (fun q hq C => by subst hq; exact k_X11_isAsked_b0 C k hB x1 x2 x3 σ hf)
def f_X11_sortsFor_b35 (k : Nat) (r4 : Int32 → Int32 → Int32 → Sg → Rs) (x1 : Int32) (x3 : Int32) (t0 : Int32) (t1 : Int32) (σ : Sg) : Rs := r4 x1 (t0 + t1) (x3 + 1) σ
set_option maxRecDepth 100000 in
set_option maxHeartbeats 4000000 in
theorem k_X11_sortsFor_b35 {q : Mc} {E : En} {L : List Nat} {o : Int32 × Sg} (C : Cx q E L cX11_sortsFor 4 RX11 (some .int) (3)) (k : Nat) (hB : Bk L sh_AuntsPuzzleModel k) (r4 : Int32 → Int32 → Int32 → Sg → Rs) (hr4 : ∀ (x1 : Int32) (x2 : Int32) (x3 : Int32) (σ : Sg), r4 x1 x2 x3 σ = some o → Vx q E L 4 (some .int) o 4 [(0, .ref (E.2.1 (k))), (1, .int x1), (2, .int x2), (3, .int x3)] [] σ) (x1 : Int32) (x3 : Int32) (t0 : Int32) (t1 : Int32) (σ : Sg) (hf : f_X11_sortsFor_b35 k r4 x1 x3 t0 t1 σ = some o) : Vx q E L 4 (some .int) o 35 [(0, .ref (E.2.1 (k))), (1, .int x1), (3, .int x3)] [.int t1, .int t0] σ := by
  unfold f_X11_sortsFor_b35 at hf
  refine v_iadd 35 C dX11_sortsFor_35 ?_
  refine v_istore_n (lv' := [(0, .ref (E.2.1 (k))), (1, .int x1), (3, .int x3), (2, .int (t0 + t1))]) 36 C dX11_sortsFor_36 rfl (by decide) rfl rfl ?_
  refine v_iinc (v := x3 + 1) (lv' := [(0, .ref (E.2.1 (k))), (1, .int x1), (3, .int (x3 + 1)), (2, .int (t0 + t1))]) 37 C dX11_sortsFor_37 rfl (by rfl) (by decide) rfl rfl ?_
  refine v_goto (tgt := 4) 40 C dX11_sortsFor_40 (by decide) ?_
  exact Vx.lv [0, 1, 3, 2] rfl (hr4 x1 (t0 + t1) (x3 + 1) σ hf)
def f_X11_sortsFor_b34 (k : Nat) (r4 : Int32 → Int32 → Int32 → Sg → Rs) (x1 : Int32) (x3 : Int32) (t0 : Int32) (σ : Sg) : Rs := f_X11_sortsFor_b35 k r4 x1 x3 t0 0 σ
set_option maxRecDepth 100000 in
set_option maxHeartbeats 4000000 in
theorem k_X11_sortsFor_b34 {q : Mc} {E : En} {L : List Nat} {o : Int32 × Sg} (C : Cx q E L cX11_sortsFor 4 RX11 (some .int) (3)) (k : Nat) (hB : Bk L sh_AuntsPuzzleModel k) (r4 : Int32 → Int32 → Int32 → Sg → Rs) (hr4 : ∀ (x1 : Int32) (x2 : Int32) (x3 : Int32) (σ : Sg), r4 x1 x2 x3 σ = some o → Vx q E L 4 (some .int) o 4 [(0, .ref (E.2.1 (k))), (1, .int x1), (2, .int x2), (3, .int x3)] [] σ) (x1 : Int32) (x3 : Int32) (t0 : Int32) (σ : Sg) (hf : f_X11_sortsFor_b34 k r4 x1 x3 t0 σ = some o) : Vx q E L 4 (some .int) o 34 [(0, .ref (E.2.1 (k))), (1, .int x1), (3, .int x3)] [.int t0] σ := by
  unfold f_X11_sortsFor_b34 at hf
  refine v_iconst (v := 0) 34 C dX11_sortsFor_34 (by decide) ?_
  exact Vx.lv [0, 1, 2] rfl (k_X11_sortsFor_b35 C k hB r4 hr4 x1 x3 t0 0 σ hf)
def f_X11_sortsFor_b4 (k : Nat)  : Nat → Int32 → Int32 → Int32 → Sg → Rs
  | 0, _, _, _, _ => none
  | n + 1, x1, x2, x3, σ => p_call (f_X11_cells k σ) (fun v1 s2 => if v1 ≤ x3 then (if x1 = 2 then (some (2 * x2, s2)) else (if x1 ≤ 2 then (some (0, s2)) else (some (3 * x2, s2)))) else (p_rd s2 (k + 8) 16 x3 (fun v3 => if v3 = 0 then (p_call (f_X11_isLaid k x3 s2) (fun v4 s5 => if v4 = 0 then (f_X11_sortsFor_b35 k (f_X11_sortsFor_b4 k n) x1 x3 x2 1 s5) else (f_X11_sortsFor_b34 k (f_X11_sortsFor_b4 k n) x1 x3 x2 s5))) else (f_X11_sortsFor_b34 k (f_X11_sortsFor_b4 k n) x1 x3 x2 s2))))
set_option maxRecDepth 100000 in
set_option maxHeartbeats 4000000 in
theorem k_X11_sortsFor_b4 {q : Mc} {E : En} {L : List Nat} {o : Int32 × Sg} (C : Cx q E L cX11_sortsFor 4 RX11 (some .int) (3)) (k : Nat) (hB : Bk L sh_AuntsPuzzleModel k) (n : Nat) : ∀ (x1 : Int32) (x2 : Int32) (x3 : Int32) (σ : Sg), f_X11_sortsFor_b4 k n x1 x2 x3 σ = some o → Vx q E L 4 (some .int) o 4 [(0, .ref (E.2.1 (k))), (1, .int x1), (2, .int x2), (3, .int x3)] [] σ := by
  induction n with
  | zero => intro x1 x2 x3 σ hf; cases (show (none : Rs) = some o from hf)
  | succ n ih =>
    intro x1 x2 x3 σ hf
    rw [f_X11_sortsFor_b4] at hf
    refine v_iload_n 4 C dX11_sortsFor_4 rfl rfl ?_
    refine v_aload_n 5 C dX11_sortsFor_5 rfl rfl ?_
    refine v_callV (st := [.int x3]) 6 C [] lm_X11_91 ly_X11_cells (hB 0 _ rfl) (by decide) dX11_sortsFor_6 rfl (by decide) rfl (Nat.le_of_ble_eq_true rfl) (fun o1 h1 => m_X11_cells k hB  σ o1 h1) hf (fun v1 s2 hf => ?_)
    refine v_icmp_ge (tgt := 43) 9 C dX11_sortsFor_9 (by decide) hf (fun hf => ?_) (fun hf => ?_)
    · refine v_iload_n 43 C dX11_sortsFor_43 rfl rfl ?_
      refine v_iconst (v := 2) 44 C dX11_sortsFor_44 (by decide) ?_
      refine v_icmp_ne (tgt := 54) 45 C dX11_sortsFor_45 (by decide) hf (fun hf => ?_) (fun hf => ?_)
      · refine v_iload_n 54 C dX11_sortsFor_54 rfl rfl ?_
        refine v_iconst (v := 2) 55 C dX11_sortsFor_55 (by decide) ?_
        refine v_icmp_le (tgt := 65) 56 C dX11_sortsFor_56 (by decide) hf (fun hf => ?_) (fun hf => ?_)
        · refine v_iconst (v := 0) 65 C dX11_sortsFor_65 (by decide) ?_
          exact v_iret 66 C rfl dX11_sortsFor_66 hf
        · refine v_iconst (v := 3) 59 C dX11_sortsFor_59 (by decide) ?_
          refine v_iload_n 60 C dX11_sortsFor_60 rfl rfl ?_
          refine v_imul 61 C dX11_sortsFor_61 ?_
          refine v_goto (tgt := 66) 62 C dX11_sortsFor_62 (by decide) ?_
          exact v_iret 66 C rfl dX11_sortsFor_66 hf
      · refine v_iconst (v := 2) 48 C dX11_sortsFor_48 (by decide) ?_
        refine v_iload_n 49 C dX11_sortsFor_49 rfl rfl ?_
        refine v_imul 50 C dX11_sortsFor_50 ?_
        refine v_goto (tgt := 66) 51 C dX11_sortsFor_51 (by decide) ?_
        exact v_iret 66 C rfl dX11_sortsFor_66 hf
    · refine v_iload_n 12 C dX11_sortsFor_12 rfl rfl ?_
      refine v_aload_n 13 C dX11_sortsFor_13 rfl rfl ?_
      refine v_getR 14 C lk_X11_31 (hB 0 _ rfl) (by decide) rfl dX11_sortsFor_14 ?_
      refine v_iload_n 17 C dX11_sortsFor_17 rfl rfl ?_
      refine v_iald 18 C (hB 8 _ rfl) dX11_sortsFor_18 hf (fun v3 hf => ?_)
      refine v_if_ne (tgt := 34) 19 C dX11_sortsFor_19 (by decide) hf (fun hf => ?_) (fun hf => ?_)
      · exact Vx.lv [0, 1, 3] rfl (k_X11_sortsFor_b34 C k hB (f_X11_sortsFor_b4 k n) ih x1 x3 x2 s2 hf)
      · refine v_aload_n 22 C dX11_sortsFor_22 rfl rfl ?_
        refine v_iload_n 23 C dX11_sortsFor_23 rfl rfl ?_
        refine v_callV (st := [.int x2]) 24 C [.int x3] lm_X11_203 ly_X11_isLaid (hB 0 _ rfl) (by decide) dX11_sortsFor_24 rfl (by decide) rfl (Nat.le_of_ble_eq_true rfl) (fun o1 h1 => m_X11_isLaid k hB x3 s2 o1 h1) hf (fun v4 s5 hf => ?_)
        refine v_if_ne (tgt := 34) 27 C dX11_sortsFor_27 (by decide) hf (fun hf => ?_) (fun hf => ?_)
        · exact Vx.lv [0, 1, 3] rfl (k_X11_sortsFor_b34 C k hB (f_X11_sortsFor_b4 k n) ih x1 x3 x2 s5 hf)
        · refine v_iconst (v := 1) 30 C dX11_sortsFor_30 (by decide) ?_
          refine v_goto (tgt := 35) 31 C dX11_sortsFor_31 (by decide) ?_
          exact Vx.lv [0, 1, 3] rfl (k_X11_sortsFor_b35 C k hB (f_X11_sortsFor_b4 k n) ih x1 x3 x2 1 s5 hf)
def f_X11_sortsFor (k : Nat) (x1 : Int32) (σ : Sg) : Rs := f_X11_sortsFor_b4 k fu x1 0 0 σ
set_option maxRecDepth 100000 in
set_option maxHeartbeats 4000000 in
theorem k_X11_sortsFor_b0 {q : Mc} {E : En} {L : List Nat} {o : Int32 × Sg} (C : Cx q E L cX11_sortsFor 4 RX11 (some .int) (3)) (k : Nat) (hB : Bk L sh_AuntsPuzzleModel k) (x1 : Int32) (σ : Sg) (hf : f_X11_sortsFor k x1 σ = some o) : Vx q E L 4 (some .int) o 0 [(0, .ref (E.2.1 (k))), (1, .int x1)] [] σ := by
  unfold f_X11_sortsFor at hf
  refine v_iconst (v := 0) 0 C dX11_sortsFor_0 (by decide) ?_
  refine v_istore_n (lv' := [(0, .ref (E.2.1 (k))), (1, .int x1), (2, .int 0)]) 1 C dX11_sortsFor_1 rfl (by decide) rfl rfl ?_
  refine v_iconst (v := 0) 2 C dX11_sortsFor_2 (by decide) ?_
  refine v_istore_n (lv' := [(0, .ref (E.2.1 (k))), (1, .int x1), (2, .int 0), (3, .int 0)]) 3 C dX11_sortsFor_3 rfl (by decide) rfl rfl ?_
  exact Vx.lv [0, 1, 2, 3] rfl (k_X11_sortsFor_b4 C k hB fu x1 0 0 σ hf)
theorem m_X11_sortsFor {l : Launch} {E : En} {L : List Nat} (k : Nat) (hB : Bk L sh_AuntsPuzzleModel k) (x1 : Int32) (σ : Sg) (o : Int32 × Sg) (hf : f_X11_sortsFor k x1 σ = some o) : Mi l yX11_sortsFor cX11_sortsFor 4 (some .int) (3) E L [.ref (E.2.1 (k)), .int x1] σ o :=
  Mi.of RX11 rfl (by decide) (Nat.le_of_ble_eq_true rfl) (fun q hq C => by subst hq; exact k_X11_sortsFor_b0 C k hB x1 σ hf)
def f_X11_formOf_b5 (k : Nat)  : Nat → Int32 → Int32 → Int32 → Int32 → Sg → Rs
  | 0, _, _, _, _, _ => none
  | n + 1, x1, x2, x3, x4, σ => if 4 ≤ x4 then (some (x3, σ)) else (p_call (f_X11_turned k x1 x2 x4 σ) (fun v1 s2 => f_X11_formOf_b5 k n x1 x2 (((20 * x3) + v1) + 9) (x4 + 1) s2))
set_option maxRecDepth 100000 in
set_option maxHeartbeats 4000000 in
theorem k_X11_formOf_b5 {q : Mc} {E : En} {L : List Nat} {o : Int32 × Sg} (C : Cx q E L cX11_formOf 5 RX11 (some .int) (5)) (k : Nat) (hB : Bk L sh_AuntsPuzzleModel k) (n : Nat) : ∀ (x1 : Int32) (x2 : Int32) (x3 : Int32) (x4 : Int32) (σ : Sg), f_X11_formOf_b5 k n x1 x2 x3 x4 σ = some o → Vx q E L 5 (some .int) o 5 [(0, .ref (E.2.1 (k))), (1, .int x1), (2, .int x2), (3, .int x3), (4, .int x4)] [] σ := by
  induction n with
  | zero => intro x1 x2 x3 x4 σ hf; cases (show (none : Rs) = some o from hf)
  | succ n ih =>
    intro x1 x2 x3 x4 σ hf
    rw [f_X11_formOf_b5] at hf
    refine v_iload 5 C dX11_formOf_5 rfl ?_
    refine v_iconst (v := 4) 7 C dX11_formOf_7 (by decide) ?_
    refine v_icmp_ge (tgt := 34) 8 C dX11_formOf_8 (by decide) hf (fun hf => ?_) (fun hf => ?_)
    · refine v_iload_n 34 C dX11_formOf_34 rfl rfl ?_
      exact v_iret 35 C rfl dX11_formOf_35 hf
    · refine v_bipush (v := 20) 11 C dX11_formOf_11 (by decide) ?_
      refine v_iload_n 13 C dX11_formOf_13 rfl rfl ?_
      refine v_imul 14 C dX11_formOf_14 ?_
      refine v_aload_n 15 C dX11_formOf_15 rfl rfl ?_
      refine v_iload_n 16 C dX11_formOf_16 rfl rfl ?_
      refine v_iload_n 17 C dX11_formOf_17 rfl rfl ?_
      refine v_iload 18 C dX11_formOf_18 rfl ?_
      refine v_callV (st := [.int (20 * x3)]) 20 C [.int x1, .int x2, .int x4] lm_X11_175 ly_X11_turned (hB 0 _ rfl) (by decide) dX11_formOf_20 rfl (by decide) rfl (Nat.le_of_ble_eq_true rfl) (fun o1 h1 => m_X11_turned k hB x1 x2 x4 σ o1 h1) hf (fun v1 s2 hf => ?_)
      refine v_iadd 23 C dX11_formOf_23 ?_
      refine v_bipush (v := 9) 24 C dX11_formOf_24 (by decide) ?_
      refine v_iadd 26 C dX11_formOf_26 ?_
      refine v_istore_n (lv' := [(0, .ref (E.2.1 (k))), (1, .int x1), (2, .int x2), (3, .int (((20 * x3) + v1) + 9)), (4, .int x4)]) 27 C dX11_formOf_27 rfl (by decide) rfl rfl ?_
      refine v_iinc (v := x4 + 1) (lv' := [(0, .ref (E.2.1 (k))), (1, .int x1), (2, .int x2), (3, .int (((20 * x3) + v1) + 9)), (4, .int (x4 + 1))]) 28 C dX11_formOf_28 rfl (by rfl) (by decide) rfl rfl ?_
      refine v_goto (tgt := 5) 31 C dX11_formOf_31 (by decide) ?_
      exact Vx.lv [0, 1, 2, 3, 4] rfl (ih x1 x2 (((20 * x3) + v1) + 9) (x4 + 1) s2 hf)
def f_X11_formOf (k : Nat) (x1 : Int32) (x2 : Int32) (σ : Sg) : Rs := f_X11_formOf_b5 k fu x1 x2 0 0 σ
set_option maxRecDepth 100000 in
set_option maxHeartbeats 4000000 in
theorem k_X11_formOf_b0 {q : Mc} {E : En} {L : List Nat} {o : Int32 × Sg} (C : Cx q E L cX11_formOf 5 RX11 (some .int) (5)) (k : Nat) (hB : Bk L sh_AuntsPuzzleModel k) (x1 : Int32) (x2 : Int32) (σ : Sg) (hf : f_X11_formOf k x1 x2 σ = some o) : Vx q E L 5 (some .int) o 0 [(0, .ref (E.2.1 (k))), (1, .int x1), (2, .int x2)] [] σ := by
  unfold f_X11_formOf at hf
  refine v_iconst (v := 0) 0 C dX11_formOf_0 (by decide) ?_
  refine v_istore_n (lv' := [(0, .ref (E.2.1 (k))), (1, .int x1), (2, .int x2), (3, .int 0)]) 1 C dX11_formOf_1 rfl (by decide) rfl rfl ?_
  refine v_iconst (v := 0) 2 C dX11_formOf_2 (by decide) ?_
  refine v_istore (lv' := [(0, .ref (E.2.1 (k))), (1, .int x1), (2, .int x2), (3, .int 0), (4, .int 0)]) 3 C dX11_formOf_3 (by decide) rfl rfl ?_
  exact Vx.lv [0, 1, 2, 3, 4] rfl (k_X11_formOf_b5 C k hB fu x1 x2 0 0 σ hf)
theorem m_X11_formOf {l : Launch} {E : En} {L : List Nat} (k : Nat) (hB : Bk L sh_AuntsPuzzleModel k) (x1 : Int32) (x2 : Int32) (σ : Sg) (o : Int32 × Sg) (hf : f_X11_formOf k x1 x2 σ = some o) : Mi l yX11_formOf cX11_formOf 5 (some .int) (5) E L [.ref (E.2.1 (k)), .int x1, .int x2] σ o :=
  Mi.of RX11 rfl (by decide) (Nat.le_of_ble_eq_true rfl) (fun q hq C => by subst hq; exact k_X11_formOf_b0 C k hB x1 x2 σ hf)
def f_X11_hasFailed_b2 (k : Nat)  : Nat → Int32 → Int32 → Sg → Rs
  | 0, _, _, _ => none
  | n + 1, x1, x2, σ => if (σ (k) 36) ≤ x2 then (some (0, σ)) else (p_rd σ (k + 22) 64 x2 (fun v1 => if v1 = x1 then (some (1, σ)) else (f_X11_hasFailed_b2 k n x1 (x2 + 1) σ)))
set_option maxRecDepth 100000 in
set_option maxHeartbeats 4000000 in
theorem k_X11_hasFailed_b2 {q : Mc} {E : En} {L : List Nat} {o : Int32 × Sg} (C : Cx q E L cX11_hasFailed 3 RX11 (some .boolean) (1)) (k : Nat) (hB : Bk L sh_AuntsPuzzleModel k) (n : Nat) : ∀ (x1 : Int32) (x2 : Int32) (σ : Sg), f_X11_hasFailed_b2 k n x1 x2 σ = some o → Vx q E L 3 (some .boolean) o 2 [(0, .ref (E.2.1 (k))), (1, .int x1), (2, .int x2)] [] σ := by
  induction n with
  | zero => intro x1 x2 σ hf; cases (show (none : Rs) = some o from hf)
  | succ n ih =>
    intro x1 x2 σ hf
    rw [f_X11_hasFailed_b2] at hf
    refine v_iload_n 2 C dX11_hasFailed_2 rfl rfl ?_
    refine v_aload_n 3 C dX11_hasFailed_3 rfl rfl ?_
    refine v_getI (dum := 0) 4 C lk_X11_232 (hB 0 _ rfl) (by decide) rfl dX11_hasFailed_4 ?_
    refine v_icmp_ge (tgt := 28) 7 C dX11_hasFailed_7 (by decide) hf (fun hf => ?_) (fun hf => ?_)
    · refine v_iconst (v := 0) 28 C dX11_hasFailed_28 (by decide) ?_
      exact v_zretN 29 C rfl dX11_hasFailed_29 (by decide) hf
    · refine v_aload_n 10 C dX11_hasFailed_10 rfl rfl ?_
      refine v_getR 11 C lk_X11_73 (hB 0 _ rfl) (by decide) rfl dX11_hasFailed_11 ?_
      refine v_iload_n 14 C dX11_hasFailed_14 rfl rfl ?_
      refine v_iald 15 C (hB 22 _ rfl) dX11_hasFailed_15 hf (fun v1 hf => ?_)
      refine v_iload_n 16 C dX11_hasFailed_16 rfl rfl ?_
      refine v_icmp_ne (tgt := 22) 17 C dX11_hasFailed_17 (by decide) hf (fun hf => ?_) (fun hf => ?_)
      · refine v_iinc (v := x2 + 1) (lv' := [(0, .ref (E.2.1 (k))), (1, .int x1), (2, .int (x2 + 1))]) 22 C dX11_hasFailed_22 rfl (by rfl) (by decide) rfl rfl ?_
        refine v_goto (tgt := 2) 25 C dX11_hasFailed_25 (by decide) ?_
        exact Vx.lv [0, 1, 2] rfl (ih x1 (x2 + 1) σ hf)
      · refine v_iconst (v := 1) 20 C dX11_hasFailed_20 (by decide) ?_
        exact v_zretN 21 C rfl dX11_hasFailed_21 (by decide) hf
def f_X11_hasFailed (k : Nat) (x1 : Int32) (σ : Sg) : Rs := f_X11_hasFailed_b2 k fu x1 0 σ
set_option maxRecDepth 100000 in
set_option maxHeartbeats 4000000 in
theorem k_X11_hasFailed_b0 {q : Mc} {E : En} {L : List Nat} {o : Int32 × Sg} (C : Cx q E L cX11_hasFailed 3 RX11 (some .boolean) (1)) (k : Nat) (hB : Bk L sh_AuntsPuzzleModel k) (x1 : Int32) (σ : Sg) (hf : f_X11_hasFailed k x1 σ = some o) : Vx q E L 3 (some .boolean) o 0 [(0, .ref (E.2.1 (k))), (1, .int x1)] [] σ := by
  unfold f_X11_hasFailed at hf
  refine v_iconst (v := 0) 0 C dX11_hasFailed_0 (by decide) ?_
  refine v_istore_n (lv' := [(0, .ref (E.2.1 (k))), (1, .int x1), (2, .int 0)]) 1 C dX11_hasFailed_1 rfl (by decide) rfl rfl ?_
  exact Vx.lv [0, 1, 2] rfl (k_X11_hasFailed_b2 C k hB fu x1 0 σ hf)
theorem m_X11_hasFailed {l : Launch} {E : En} {L : List Nat} (k : Nat) (hB : Bk L sh_AuntsPuzzleModel k) (x1 : Int32) (σ : Sg) (o : Int32 × Sg) (hf : f_X11_hasFailed k x1 σ = some o) : Mi l yX11_hasFailed cX11_hasFailed 3 (some .boolean) (1) E L [.ref (E.2.1 (k)), .int x1] σ o :=
  Mi.of RX11 rfl (by decide) (Nat.le_of_ble_eq_true rfl) (fun q hq C => by subst hq; exact k_X11_hasFailed_b0 C k hB x1 σ hf)
def f_X11_goesThrough_b176 (k : Nat) (r11 : Int32 → Int32 → Int32 → Int32 → Int32 → Sg → Rs) (x1 : Int32) (x2 : Int32) (x3 : Int32) (x4 : Int32) (x5 : Int32) (σ : Sg) : Rs := r11 x1 x2 x3 x4 (x5 + 1) σ
set_option maxRecDepth 100000 in
set_option maxHeartbeats 4000000 in
theorem k_X11_goesThrough_b176 {q : Mc} {E : En} {L : List Nat} {o : Int32 × Sg} (C : Cx q E L cX11_goesThrough 7 RX11 (some .int) (9)) (k : Nat) (hB : Bk L sh_AuntsPuzzleModel k) (r11 : Int32 → Int32 → Int32 → Int32 → Int32 → Sg → Rs) (hr11 : ∀ (x1 : Int32) (x2 : Int32) (x3 : Int32) (x4 : Int32) (x5 : Int32) (σ : Sg), r11 x1 x2 x3 x4 x5 σ = some o → Vx q E L 7 (some .int) o 11 [(0, .ref (E.2.1 (k))), (1, .int x1), (2, .int x2), (3, .int x3), (4, .int x4), (5, .int x5)] [] σ) (x1 : Int32) (x2 : Int32) (x3 : Int32) (x4 : Int32) (x5 : Int32) (σ : Sg) (hf : f_X11_goesThrough_b176 k r11 x1 x2 x3 x4 x5 σ = some o) : Vx q E L 7 (some .int) o 176 [(0, .ref (E.2.1 (k))), (1, .int x1), (2, .int x2), (3, .int x3), (4, .int x4), (5, .int x5)] [] σ := by
  unfold f_X11_goesThrough_b176 at hf
  refine v_iinc (v := x5 + 1) (lv' := [(0, .ref (E.2.1 (k))), (1, .int x1), (2, .int x2), (3, .int x3), (4, .int x4), (5, .int (x5 + 1))]) 176 C dX11_goesThrough_176 rfl (by rfl) (by decide) rfl rfl ?_
  refine v_goto (tgt := 11) 179 C dX11_goesThrough_179 (by decide) ?_
  exact Vx.lv [0, 1, 2, 3, 4, 5] rfl (hr11 x1 x2 x3 x4 (x5 + 1) σ hf)
def f_X11_goesThrough_b170 (k : Nat) (r11 : Int32 → Int32 → Int32 → Int32 → Int32 → Sg → Rs) (r57 : Int32 → Int32 → Int32 → Int32 → Int32 → Int32 → Sg → Rs) (x1 : Int32) (x2 : Int32) (x3 : Int32) (x4 : Int32) (x5 : Int32) (x6 : Int32) (σ : Sg) : Rs := r57 x1 x2 x3 x4 x5 (x6 + 1) σ
set_option maxRecDepth 100000 in
set_option maxHeartbeats 4000000 in
theorem k_X11_goesThrough_b170 {q : Mc} {E : En} {L : List Nat} {o : Int32 × Sg} (C : Cx q E L cX11_goesThrough 7 RX11 (some .int) (9)) (k : Nat) (hB : Bk L sh_AuntsPuzzleModel k) (r11 : Int32 → Int32 → Int32 → Int32 → Int32 → Sg → Rs) (hr11 : ∀ (x1 : Int32) (x2 : Int32) (x3 : Int32) (x4 : Int32) (x5 : Int32) (σ : Sg), r11 x1 x2 x3 x4 x5 σ = some o → Vx q E L 7 (some .int) o 11 [(0, .ref (E.2.1 (k))), (1, .int x1), (2, .int x2), (3, .int x3), (4, .int x4), (5, .int x5)] [] σ) (r57 : Int32 → Int32 → Int32 → Int32 → Int32 → Int32 → Sg → Rs) (hr57 : ∀ (x1 : Int32) (x2 : Int32) (x3 : Int32) (x4 : Int32) (x5 : Int32) (x6 : Int32) (σ : Sg), r57 x1 x2 x3 x4 x5 x6 σ = some o → Vx q E L 7 (some .int) o 57 [(0, .ref (E.2.1 (k))), (1, .int x1), (2, .int x2), (3, .int x3), (4, .int x4), (5, .int x5), (6, .int x6)] [] σ) (x1 : Int32) (x2 : Int32) (x3 : Int32) (x4 : Int32) (x5 : Int32) (x6 : Int32) (σ : Sg) (hf : f_X11_goesThrough_b170 k r11 r57 x1 x2 x3 x4 x5 x6 σ = some o) : Vx q E L 7 (some .int) o 170 [(0, .ref (E.2.1 (k))), (1, .int x1), (2, .int x2), (3, .int x3), (4, .int x4), (5, .int x5), (6, .int x6)] [] σ := by
  unfold f_X11_goesThrough_b170 at hf
  refine v_iinc (v := x6 + 1) (lv' := [(0, .ref (E.2.1 (k))), (1, .int x1), (2, .int x2), (3, .int x3), (4, .int x4), (5, .int x5), (6, .int (x6 + 1))]) 170 C dX11_goesThrough_170 rfl (by rfl) (by decide) rfl rfl ?_
  refine v_goto (tgt := 57) 173 C dX11_goesThrough_173 (by decide) ?_
  exact Vx.lv [0, 1, 2, 3, 4, 5, 6] rfl (hr57 x1 x2 x3 x4 x5 (x6 + 1) σ hf)
def f_X11_goesThrough_b130 (k : Nat) (r11 : Int32 → Int32 → Int32 → Int32 → Int32 → Sg → Rs) (r57 : Int32 → Int32 → Int32 → Int32 → Int32 → Int32 → Sg → Rs) (x1 : Int32) (x2 : Int32) (x3 : Int32) (x4 : Int32) (x5 : Int32) (x6 : Int32) (σ : Sg) : Rs := p_call (f_X11_kindAt k x5 x6 x3 σ) (fun v1 s2 => if v1 ≤ 2 then (f_X11_goesThrough_b170 k r11 r57 x1 x2 x3 x4 x5 x6 s2) else (p_call (f_X11_formOf k x5 x6 s2) (fun v3 s4 => p_wr s4 (k + 22) 64 (s2 (k) 36) v3 (fun s5 => p_put s5 (k) 36 ((s5 (k) 36) + 1) (fun s6 => f_X11_goesThrough_b170 k r11 r57 x1 x2 x3 x4 x5 x6 s6)))))
set_option maxRecDepth 100000 in
set_option maxHeartbeats 4000000 in
theorem k_X11_goesThrough_b130 {q : Mc} {E : En} {L : List Nat} {o : Int32 × Sg} (C : Cx q E L cX11_goesThrough 7 RX11 (some .int) (9)) (k : Nat) (hB : Bk L sh_AuntsPuzzleModel k) (r11 : Int32 → Int32 → Int32 → Int32 → Int32 → Sg → Rs) (hr11 : ∀ (x1 : Int32) (x2 : Int32) (x3 : Int32) (x4 : Int32) (x5 : Int32) (σ : Sg), r11 x1 x2 x3 x4 x5 σ = some o → Vx q E L 7 (some .int) o 11 [(0, .ref (E.2.1 (k))), (1, .int x1), (2, .int x2), (3, .int x3), (4, .int x4), (5, .int x5)] [] σ) (r57 : Int32 → Int32 → Int32 → Int32 → Int32 → Int32 → Sg → Rs) (hr57 : ∀ (x1 : Int32) (x2 : Int32) (x3 : Int32) (x4 : Int32) (x5 : Int32) (x6 : Int32) (σ : Sg), r57 x1 x2 x3 x4 x5 x6 σ = some o → Vx q E L 7 (some .int) o 57 [(0, .ref (E.2.1 (k))), (1, .int x1), (2, .int x2), (3, .int x3), (4, .int x4), (5, .int x5), (6, .int x6)] [] σ) (x1 : Int32) (x2 : Int32) (x3 : Int32) (x4 : Int32) (x5 : Int32) (x6 : Int32) (σ : Sg) (hf : f_X11_goesThrough_b130 k r11 r57 x1 x2 x3 x4 x5 x6 σ = some o) : Vx q E L 7 (some .int) o 130 [(0, .ref (E.2.1 (k))), (1, .int x1), (2, .int x2), (3, .int x3), (4, .int x4), (5, .int x5), (6, .int x6)] [] σ := by
  unfold f_X11_goesThrough_b130 at hf
  refine v_aload_n 130 C dX11_goesThrough_130 rfl rfl ?_
  refine v_iload 131 C dX11_goesThrough_131 rfl ?_
  refine v_iload 133 C dX11_goesThrough_133 rfl ?_
  refine v_iload_n 135 C dX11_goesThrough_135 rfl rfl ?_
  refine v_callV (st := []) 136 C [.int x5, .int x6, .int x3] lm_X11_190 ly_X11_kindAt (hB 0 _ rfl) (by decide) dX11_goesThrough_136 rfl (by decide) rfl (Nat.le_of_ble_eq_true rfl) (fun o1 h1 => m_X11_kindAt k hB x5 x6 x3 σ o1 h1) hf (fun v1 s2 hf => ?_)
  refine v_iconst (v := 2) 139 C dX11_goesThrough_139 (by decide) ?_
  refine v_icmp_le (tgt := 170) 140 C dX11_goesThrough_140 (by decide) hf (fun hf => ?_) (fun hf => ?_)
  · exact Vx.lv [0, 1, 2, 3, 4, 5, 6] rfl (k_X11_goesThrough_b170 C k hB r11 hr11 r57 hr57 x1 x2 x3 x4 x5 x6 s2 hf)
  · refine v_aload_n 143 C dX11_goesThrough_143 rfl rfl ?_
    refine v_getR 144 C lk_X11_73 (hB 0 _ rfl) (by decide) rfl dX11_goesThrough_144 ?_
    refine v_aload_n 147 C dX11_goesThrough_147 rfl rfl ?_
    refine v_getI (dum := 0) 148 C lk_X11_232 (hB 0 _ rfl) (by decide) rfl dX11_goesThrough_148 ?_
    refine v_aload_n 151 C dX11_goesThrough_151 rfl rfl ?_
    refine v_iload 152 C dX11_goesThrough_152 rfl ?_
    refine v_iload 154 C dX11_goesThrough_154 rfl ?_
    refine v_callV (st := [.int (s2 (k) 36), .ref (E.2.1 (k + 22))]) 156 C [.int x5, .int x6] lm_X11_238 ly_X11_formOf (hB 0 _ rfl) (by decide) dX11_goesThrough_156 rfl (by decide) rfl (Nat.le_of_ble_eq_true rfl) (fun o1 h1 => m_X11_formOf k hB x5 x6 s2 o1 h1) hf (fun v3 s4 hf => ?_)
    refine v_iast 159 C (hB 22 _ rfl) dX11_goesThrough_159 hf (fun s5 hf => ?_)
    refine v_aload_n 160 C dX11_goesThrough_160 rfl rfl ?_
    refine v_dup 161 C dX11_goesThrough_161 rfl ?_
    refine v_getI (dum := 0) 162 C lk_X11_232 (hB 0 _ rfl) (by decide) rfl dX11_goesThrough_162 ?_
    refine v_iconst (v := 1) 165 C dX11_goesThrough_165 (by decide) ?_
    refine v_iadd 166 C dX11_goesThrough_166 ?_
    refine v_putI 167 C lp_X11_232 (hB 0 _ rfl) (by decide) rfl dX11_goesThrough_167 hf (fun s6 hf => ?_)
    exact Vx.lv [0, 1, 2, 3, 4, 5, 6] rfl (k_X11_goesThrough_b170 C k hB r11 hr11 r57 hr57 x1 x2 x3 x4 x5 x6 s6 hf)
def f_X11_goesThrough_b86 (k : Nat) (r11 : Int32 → Int32 → Int32 → Int32 → Int32 → Sg → Rs) (r57 : Int32 → Int32 → Int32 → Int32 → Int32 → Int32 → Sg → Rs) (x1 : Int32) (x2 : Int32) (x3 : Int32) (x4 : Int32) (x5 : Int32) (x6 : Int32) (σ : Sg) : Rs := p_call (f_X11_secondsOf k x2 x5 x6 x3 σ) (fun v1 s2 => if x5 = x3 then (if x6 = 0 then (p_wr s2 (k + 5) 16 x3 x5 (fun s3 => p_wr s3 (k + 6) 16 x3 0 (fun s4 => some (x4 + v1, s4)))) else (f_X11_goesThrough_b130 k r11 r57 x1 x2 x3 (x4 + v1) x5 x6 s2)) else (f_X11_goesThrough_b130 k r11 r57 x1 x2 x3 (x4 + v1) x5 x6 s2))
set_option maxRecDepth 100000 in
set_option maxHeartbeats 4000000 in
theorem k_X11_goesThrough_b86 {q : Mc} {E : En} {L : List Nat} {o : Int32 × Sg} (C : Cx q E L cX11_goesThrough 7 RX11 (some .int) (9)) (k : Nat) (hB : Bk L sh_AuntsPuzzleModel k) (r11 : Int32 → Int32 → Int32 → Int32 → Int32 → Sg → Rs) (hr11 : ∀ (x1 : Int32) (x2 : Int32) (x3 : Int32) (x4 : Int32) (x5 : Int32) (σ : Sg), r11 x1 x2 x3 x4 x5 σ = some o → Vx q E L 7 (some .int) o 11 [(0, .ref (E.2.1 (k))), (1, .int x1), (2, .int x2), (3, .int x3), (4, .int x4), (5, .int x5)] [] σ) (r57 : Int32 → Int32 → Int32 → Int32 → Int32 → Int32 → Sg → Rs) (hr57 : ∀ (x1 : Int32) (x2 : Int32) (x3 : Int32) (x4 : Int32) (x5 : Int32) (x6 : Int32) (σ : Sg), r57 x1 x2 x3 x4 x5 x6 σ = some o → Vx q E L 7 (some .int) o 57 [(0, .ref (E.2.1 (k))), (1, .int x1), (2, .int x2), (3, .int x3), (4, .int x4), (5, .int x5), (6, .int x6)] [] σ) (x1 : Int32) (x2 : Int32) (x3 : Int32) (x4 : Int32) (x5 : Int32) (x6 : Int32) (σ : Sg) (hf : f_X11_goesThrough_b86 k r11 r57 x1 x2 x3 x4 x5 x6 σ = some o) : Vx q E L 7 (some .int) o 86 [(0, .ref (E.2.1 (k))), (1, .int x1), (2, .int x2), (3, .int x3), (4, .int x4), (5, .int x5), (6, .int x6)] [] σ := by
  unfold f_X11_goesThrough_b86 at hf
  refine v_iload 86 C dX11_goesThrough_86 rfl ?_
  refine v_aload_n 88 C dX11_goesThrough_88 rfl rfl ?_
  refine v_iload_n 89 C dX11_goesThrough_89 rfl rfl ?_
  refine v_iload 90 C dX11_goesThrough_90 rfl ?_
  refine v_iload 92 C dX11_goesThrough_92 rfl ?_
  refine v_iload_n 94 C dX11_goesThrough_94 rfl rfl ?_
  refine v_callV (st := [.int x4]) 95 C [.int x2, .int x5, .int x6, .int x3] lm_X11_199 ly_X11_secondsOf (hB 0 _ rfl) (by decide) dX11_goesThrough_95 rfl (by decide) rfl (Nat.le_of_ble_eq_true rfl) (fun o1 h1 => m_X11_secondsOf k hB x2 x5 x6 x3 σ o1 h1) hf (fun v1 s2 hf => ?_)
  refine v_iadd 98 C dX11_goesThrough_98 ?_
  refine v_istore (lv' := [(0, .ref (E.2.1 (k))), (1, .int x1), (2, .int x2), (3, .int x3), (4, .int (x4 + v1)), (5, .int x5), (6, .int x6)]) 99 C dX11_goesThrough_99 (by decide) rfl rfl ?_
  refine v_iload 101 C dX11_goesThrough_101 rfl ?_
  refine v_iload_n 103 C dX11_goesThrough_103 rfl rfl ?_
  refine v_icmp_ne (tgt := 130) 104 C dX11_goesThrough_104 (by decide) hf (fun hf => ?_) (fun hf => ?_)
  · exact Vx.lv [0, 1, 2, 3, 4, 5, 6] rfl (k_X11_goesThrough_b130 C k hB r11 hr11 r57 hr57 x1 x2 x3 (x4 + v1) x5 x6 s2 hf)
  · refine v_iload 107 C dX11_goesThrough_107 rfl ?_
    refine v_if_ne (tgt := 130) 109 C dX11_goesThrough_109 (by decide) hf (fun hf => ?_) (fun hf => ?_)
    · exact Vx.lv [0, 1, 2, 3, 4, 5, 6] rfl (k_X11_goesThrough_b130 C k hB r11 hr11 r57 hr57 x1 x2 x3 (x4 + v1) x5 x6 s2 hf)
    · refine v_aload_n 112 C dX11_goesThrough_112 rfl rfl ?_
      refine v_getR 113 C lk_X11_22 (hB 0 _ rfl) (by decide) rfl dX11_goesThrough_113 ?_
      refine v_iload_n 116 C dX11_goesThrough_116 rfl rfl ?_
      refine v_iload 117 C dX11_goesThrough_117 rfl ?_
      refine v_iast 119 C (hB 5 _ rfl) dX11_goesThrough_119 hf (fun s3 hf => ?_)
      refine v_aload_n 120 C dX11_goesThrough_120 rfl rfl ?_
      refine v_getR 121 C lk_X11_25 (hB 0 _ rfl) (by decide) rfl dX11_goesThrough_121 ?_
      refine v_iload_n 124 C dX11_goesThrough_124 rfl rfl ?_
      refine v_iconst (v := 0) 125 C dX11_goesThrough_125 (by decide) ?_
      refine v_iast 126 C (hB 6 _ rfl) dX11_goesThrough_126 hf (fun s4 hf => ?_)
      refine v_iload 127 C dX11_goesThrough_127 rfl ?_
      exact v_iret 129 C rfl dX11_goesThrough_129 hf
def f_X11_goesThrough_b57 (k : Nat) (r11 : Int32 → Int32 → Int32 → Int32 → Int32 → Sg → Rs) : Nat → Int32 → Int32 → Int32 → Int32 → Int32 → Int32 → Sg → Rs
  | 0, _, _, _, _, _, _, _ => none
  | n + 1, x1, x2, x3, x4, x5, x6, σ => if 4 ≤ x6 then (f_X11_goesThrough_b176 k r11 x1 x2 x3 x4 x5 σ) else (if x1 = 4 then (p_call (f_X11_formOf k x5 x6 σ) (fun v1 s2 => p_call (f_X11_hasFailed k v1 s2) (fun v3 s4 => if v3 = 0 then (f_X11_goesThrough_b86 k r11 (f_X11_goesThrough_b57 k r11 n) x1 x2 x3 x4 x5 x6 s4) else (f_X11_goesThrough_b170 k r11 (f_X11_goesThrough_b57 k r11 n) x1 x2 x3 x4 x5 x6 s4)))) else (f_X11_goesThrough_b86 k r11 (f_X11_goesThrough_b57 k r11 n) x1 x2 x3 x4 x5 x6 σ))
set_option maxRecDepth 100000 in
set_option maxHeartbeats 4000000 in
theorem k_X11_goesThrough_b57 {q : Mc} {E : En} {L : List Nat} {o : Int32 × Sg} (C : Cx q E L cX11_goesThrough 7 RX11 (some .int) (9)) (k : Nat) (hB : Bk L sh_AuntsPuzzleModel k) (r11 : Int32 → Int32 → Int32 → Int32 → Int32 → Sg → Rs) (hr11 : ∀ (x1 : Int32) (x2 : Int32) (x3 : Int32) (x4 : Int32) (x5 : Int32) (σ : Sg), r11 x1 x2 x3 x4 x5 σ = some o → Vx q E L 7 (some .int) o 11 [(0, .ref (E.2.1 (k))), (1, .int x1), (2, .int x2), (3, .int x3), (4, .int x4), (5, .int x5)] [] σ) (n : Nat) : ∀ (x1 : Int32) (x2 : Int32) (x3 : Int32) (x4 : Int32) (x5 : Int32) (x6 : Int32) (σ : Sg), f_X11_goesThrough_b57 k r11 n x1 x2 x3 x4 x5 x6 σ = some o → Vx q E L 7 (some .int) o 57 [(0, .ref (E.2.1 (k))), (1, .int x1), (2, .int x2), (3, .int x3), (4, .int x4), (5, .int x5), (6, .int x6)] [] σ := by
  induction n with
  | zero => intro x1 x2 x3 x4 x5 x6 σ hf; cases (show (none : Rs) = some o from hf)
  | succ n ih =>
    intro x1 x2 x3 x4 x5 x6 σ hf
    rw [f_X11_goesThrough_b57] at hf
    refine v_iload 57 C dX11_goesThrough_57 rfl ?_
    refine v_iconst (v := 4) 59 C dX11_goesThrough_59 (by decide) ?_
    refine v_icmp_ge (tgt := 176) 60 C dX11_goesThrough_60 (by decide) hf (fun hf => ?_) (fun hf => ?_)
    · exact Vx.lv [0, 1, 2, 3, 4, 5] rfl (k_X11_goesThrough_b176 C k hB r11 hr11 x1 x2 x3 x4 x5 σ hf)
    · refine v_iload_n 63 C dX11_goesThrough_63 rfl rfl ?_
      refine v_iconst (v := 4) 64 C dX11_goesThrough_64 (by decide) ?_
      refine v_icmp_ne (tgt := 86) 65 C dX11_goesThrough_65 (by decide) hf (fun hf => ?_) (fun hf => ?_)
      · exact Vx.lv [0, 1, 2, 3, 4, 5, 6] rfl (k_X11_goesThrough_b86 C k hB r11 hr11 (f_X11_goesThrough_b57 k r11 n) ih x1 x2 x3 x4 x5 x6 σ hf)
      · refine v_aload_n 68 C dX11_goesThrough_68 rfl rfl ?_
        refine v_aload_n 69 C dX11_goesThrough_69 rfl rfl ?_
        refine v_iload 70 C dX11_goesThrough_70 rfl ?_
        refine v_iload 72 C dX11_goesThrough_72 rfl ?_
        refine v_callV (st := [.ref (E.2.1 (k))]) 74 C [.int x5, .int x6] lm_X11_238 ly_X11_formOf (hB 0 _ rfl) (by decide) dX11_goesThrough_74 rfl (by decide) rfl (Nat.le_of_ble_eq_true rfl) (fun o1 h1 => m_X11_formOf k hB x5 x6 σ o1 h1) hf (fun v1 s2 hf => ?_)
        refine v_callV (st := []) 77 C [.int v1] lm_X11_241 ly_X11_hasFailed (hB 0 _ rfl) (by decide) dX11_goesThrough_77 rfl (by decide) rfl (Nat.le_of_ble_eq_true rfl) (fun o1 h1 => m_X11_hasFailed k hB v1 s2 o1 h1) hf (fun v3 s4 hf => ?_)
        refine v_if_eq (tgt := 86) 80 C dX11_goesThrough_80 (by decide) hf (fun hf => ?_) (fun hf => ?_)
        · exact Vx.lv [0, 1, 2, 3, 4, 5, 6] rfl (k_X11_goesThrough_b86 C k hB r11 hr11 (f_X11_goesThrough_b57 k r11 n) ih x1 x2 x3 x4 x5 x6 s4 hf)
        · refine v_goto (tgt := 170) 83 C dX11_goesThrough_83 (by decide) ?_
          exact Vx.lv [0, 1, 2, 3, 4, 5, 6] rfl (k_X11_goesThrough_b170 C k hB r11 hr11 (f_X11_goesThrough_b57 k r11 n) ih x1 x2 x3 x4 x5 x6 s4 hf)
def f_X11_goesThrough_b11 (k : Nat)  : Nat → Int32 → Int32 → Int32 → Int32 → Int32 → Sg → Rs
  | 0, _, _, _, _, _, _ => none
  | n + 1, x1, x2, x3, x4, x5, σ => p_call (f_X11_cells k σ) (fun v1 s2 => if v1 ≤ x5 then (some (x4, s2)) else (p_rd s2 (k + 8) 16 x5 (fun v3 => if v3 = 1 then (f_X11_goesThrough_b176 k (f_X11_goesThrough_b11 k n) x1 x2 x3 x4 x5 s2) else (p_call (f_X11_isLaid k x5 s2) (fun v4 s5 => if v4 = 0 then (p_call (f_X11_isAsked k x1 x5 x3 s5) (fun v6 s7 => if v6 = 0 then (f_X11_goesThrough_b176 k (f_X11_goesThrough_b11 k n) x1 x2 x3 x4 x5 s7) else (f_X11_goesThrough_b57 k (f_X11_goesThrough_b11 k n) fu x1 x2 x3 x4 x5 0 s7))) else (f_X11_goesThrough_b176 k (f_X11_goesThrough_b11 k n) x1 x2 x3 x4 x5 s5))))))
set_option maxRecDepth 100000 in
set_option maxHeartbeats 4000000 in
theorem k_X11_goesThrough_b11 {q : Mc} {E : En} {L : List Nat} {o : Int32 × Sg} (C : Cx q E L cX11_goesThrough 7 RX11 (some .int) (9)) (k : Nat) (hB : Bk L sh_AuntsPuzzleModel k) (n : Nat) : ∀ (x1 : Int32) (x2 : Int32) (x3 : Int32) (x4 : Int32) (x5 : Int32) (σ : Sg), f_X11_goesThrough_b11 k n x1 x2 x3 x4 x5 σ = some o → Vx q E L 7 (some .int) o 11 [(0, .ref (E.2.1 (k))), (1, .int x1), (2, .int x2), (3, .int x3), (4, .int x4), (5, .int x5)] [] σ := by
  induction n with
  | zero => intro x1 x2 x3 x4 x5 σ hf; cases (show (none : Rs) = some o from hf)
  | succ n ih =>
    intro x1 x2 x3 x4 x5 σ hf
    rw [f_X11_goesThrough_b11] at hf
    refine v_iload 11 C dX11_goesThrough_11 rfl ?_
    refine v_aload_n 13 C dX11_goesThrough_13 rfl rfl ?_
    refine v_callV (st := [.int x5]) 14 C [] lm_X11_91 ly_X11_cells (hB 0 _ rfl) (by decide) dX11_goesThrough_14 rfl (by decide) rfl (Nat.le_of_ble_eq_true rfl) (fun o1 h1 => m_X11_cells k hB  σ o1 h1) hf (fun v1 s2 hf => ?_)
    refine v_icmp_ge (tgt := 182) 17 C dX11_goesThrough_17 (by decide) hf (fun hf => ?_) (fun hf => ?_)
    · refine v_iload 182 C dX11_goesThrough_182 rfl ?_
      exact v_iret 184 C rfl dX11_goesThrough_184 hf
    · refine v_aload_n 20 C dX11_goesThrough_20 rfl rfl ?_
      refine v_getR 21 C lk_X11_31 (hB 0 _ rfl) (by decide) rfl dX11_goesThrough_21 ?_
      refine v_iload 24 C dX11_goesThrough_24 rfl ?_
      refine v_iald 26 C (hB 8 _ rfl) dX11_goesThrough_26 hf (fun v3 hf => ?_)
      refine v_iconst (v := 1) 27 C dX11_goesThrough_27 (by decide) ?_
      refine v_icmp_eq (tgt := 176) 28 C dX11_goesThrough_28 (by decide) hf (fun hf => ?_) (fun hf => ?_)
      · exact Vx.lv [0, 1, 2, 3, 4, 5] rfl (k_X11_goesThrough_b176 C k hB (f_X11_goesThrough_b11 k n) ih x1 x2 x3 x4 x5 s2 hf)
      · refine v_aload_n 31 C dX11_goesThrough_31 rfl rfl ?_
        refine v_iload 32 C dX11_goesThrough_32 rfl ?_
        refine v_callV (st := []) 34 C [.int x5] lm_X11_203 ly_X11_isLaid (hB 0 _ rfl) (by decide) dX11_goesThrough_34 rfl (by decide) rfl (Nat.le_of_ble_eq_true rfl) (fun o1 h1 => m_X11_isLaid k hB x5 s2 o1 h1) hf (fun v4 s5 hf => ?_)
        refine v_if_ne (tgt := 176) 37 C dX11_goesThrough_37 (by decide) hf (fun hf => ?_) (fun hf => ?_)
        · exact Vx.lv [0, 1, 2, 3, 4, 5] rfl (k_X11_goesThrough_b176 C k hB (f_X11_goesThrough_b11 k n) ih x1 x2 x3 x4 x5 s5 hf)
        · refine v_aload_n 40 C dX11_goesThrough_40 rfl rfl ?_
          refine v_iload_n 41 C dX11_goesThrough_41 rfl rfl ?_
          refine v_iload 42 C dX11_goesThrough_42 rfl ?_
          refine v_iload_n 44 C dX11_goesThrough_44 rfl rfl ?_
          refine v_callV (st := []) 45 C [.int x1, .int x5, .int x3] lm_X11_235 ly_X11_isAsked (hB 0 _ rfl) (by decide) dX11_goesThrough_45 rfl (by decide) rfl (Nat.le_of_ble_eq_true rfl) (fun o1 h1 => m_X11_isAsked k hB x1 x5 x3 s5 o1 h1) hf (fun v6 s7 hf => ?_)
          refine v_if_ne (tgt := 54) 48 C dX11_goesThrough_48 (by decide) hf (fun hf => ?_) (fun hf => ?_)
          · refine v_iconst (v := 0) 54 C dX11_goesThrough_54 (by decide) ?_
            refine v_istore (lv' := [(0, .ref (E.2.1 (k))), (1, .int x1), (2, .int x2), (3, .int x3), (4, .int x4), (5, .int x5), (6, .int 0)]) 55 C dX11_goesThrough_55 (by decide) rfl rfl ?_
            exact Vx.lv [0, 1, 2, 3, 4, 5, 6] rfl (k_X11_goesThrough_b57 C k hB (f_X11_goesThrough_b11 k n) ih fu x1 x2 x3 x4 x5 0 s7 hf)
          · refine v_goto (tgt := 176) 51 C dX11_goesThrough_51 (by decide) ?_
            exact Vx.lv [0, 1, 2, 3, 4, 5] rfl (k_X11_goesThrough_b176 C k hB (f_X11_goesThrough_b11 k n) ih x1 x2 x3 x4 x5 s7 hf)
def f_X11_goesThrough (k : Nat) (x1 : Int32) (x2 : Int32) (x3 : Int32) (σ : Sg) : Rs := p_put σ (k) 36 0 (fun s1 => f_X11_goesThrough_b11 k fu x1 x2 x3 0 0 s1)
set_option maxRecDepth 100000 in
set_option maxHeartbeats 4000000 in
theorem k_X11_goesThrough_b0 {q : Mc} {E : En} {L : List Nat} {o : Int32 × Sg} (C : Cx q E L cX11_goesThrough 7 RX11 (some .int) (9)) (k : Nat) (hB : Bk L sh_AuntsPuzzleModel k) (x1 : Int32) (x2 : Int32) (x3 : Int32) (σ : Sg) (hf : f_X11_goesThrough k x1 x2 x3 σ = some o) : Vx q E L 7 (some .int) o 0 [(0, .ref (E.2.1 (k))), (1, .int x1), (2, .int x2), (3, .int x3)] [] σ := by
  unfold f_X11_goesThrough at hf
  refine v_iconst (v := 0) 0 C dX11_goesThrough_0 (by decide) ?_
  refine v_istore (lv' := [(0, .ref (E.2.1 (k))), (1, .int x1), (2, .int x2), (3, .int x3), (4, .int 0)]) 1 C dX11_goesThrough_1 (by decide) rfl rfl ?_
  refine v_aload_n 3 C dX11_goesThrough_3 rfl rfl ?_
  refine v_iconst (v := 0) 4 C dX11_goesThrough_4 (by decide) ?_
  refine v_putI 5 C lp_X11_232 (hB 0 _ rfl) (by decide) rfl dX11_goesThrough_5 hf (fun s1 hf => ?_)
  refine v_iconst (v := 0) 8 C dX11_goesThrough_8 (by decide) ?_
  refine v_istore (lv' := [(0, .ref (E.2.1 (k))), (1, .int x1), (2, .int x2), (3, .int x3), (4, .int 0), (5, .int 0)]) 9 C dX11_goesThrough_9 (by decide) rfl rfl ?_
  exact Vx.lv [0, 1, 2, 3, 4, 5] rfl (k_X11_goesThrough_b11 C k hB fu x1 x2 x3 0 0 s1 hf)
theorem m_X11_goesThrough {l : Launch} {E : En} {L : List Nat} (k : Nat) (hB : Bk L sh_AuntsPuzzleModel k) (x1 : Int32) (x2 : Int32) (x3 : Int32) (σ : Sg) (o : Int32 × Sg) (hf : f_X11_goesThrough k x1 x2 x3 σ = some o) : Mi l yX11_goesThrough cX11_goesThrough 7 (some .int) (9) E L [.ref (E.2.1 (k)), .int x1, .int x2, .int x3] σ o :=
  Mi.of RX11 rfl (by decide) (Nat.le_of_ble_eq_true rfl) (fun q hq C => by subst hq; exact k_X11_goesThrough_b0 C k hB x1 x2 x3 σ hf)
def f_X11_doneBy_b66 (k : Nat) (x6 : Int32) (σ : Sg) : Rs := p_call (f_X11_passesAll k 1 0 σ) (fun v1 s2 => some (x6, s2))
set_option maxRecDepth 100000 in
set_option maxHeartbeats 4000000 in
theorem k_X11_doneBy_b66 {q : Mc} {E : En} {L : List Nat} {o : Int32 × Sg} (C : Cx q E L cX11_doneBy 8 RX11 (some .int) (10)) (k : Nat) (hB : Bk L sh_AuntsPuzzleModel k) (x6 : Int32) (σ : Sg) (hf : f_X11_doneBy_b66 k x6 σ = some o) : Vx q E L 8 (some .int) o 66 [(0, .ref (E.2.1 (k))), (6, .int x6)] [] σ := by
  unfold f_X11_doneBy_b66 at hf
  refine v_aload_n 66 C dX11_doneBy_66 rfl rfl ?_
  refine v_iconst (v := 1) 67 C dX11_doneBy_67 (by decide) ?_
  refine v_iconst (v := 0) 68 C dX11_doneBy_68 (by decide) ?_
  refine v_callV (st := []) 69 C [.int 1, .int 0] lm_X11_151 ly_X11_passesAll (hB 0 _ rfl) (by decide) dX11_doneBy_69 rfl (by decide) rfl (Nat.le_of_ble_eq_true rfl) (fun o1 h1 => m_X11_passesAll k hB 1 0 σ o1 h1) hf (fun v1 s2 hf => ?_)
  refine v_iload 72 C dX11_doneBy_72 rfl ?_
  exact v_iret 74 C rfl dX11_doneBy_74 hf
def f_X11_doneBy_b60 (k : Nat) (r17 : Int32 → Int32 → Int32 → Int32 → Int32 → Int32 → Int32 → Sg → Rs) (x1 : Int32) (x2 : Int32) (x3 : Int32) (x4 : Int32) (x5 : Int32) (x6 : Int32) (x7 : Int32) (σ : Sg) : Rs := r17 x1 x2 x3 x4 x5 x6 (x7 + 1) σ
set_option maxRecDepth 100000 in
set_option maxHeartbeats 4000000 in
theorem k_X11_doneBy_b60 {q : Mc} {E : En} {L : List Nat} {o : Int32 × Sg} (C : Cx q E L cX11_doneBy 8 RX11 (some .int) (10)) (k : Nat) (hB : Bk L sh_AuntsPuzzleModel k) (r17 : Int32 → Int32 → Int32 → Int32 → Int32 → Int32 → Int32 → Sg → Rs) (hr17 : ∀ (x1 : Int32) (x2 : Int32) (x3 : Int32) (x4 : Int32) (x5 : Int32) (x6 : Int32) (x7 : Int32) (σ : Sg), r17 x1 x2 x3 x4 x5 x6 x7 σ = some o → Vx q E L 8 (some .int) o 17 [(0, .ref (E.2.1 (k))), (1, .int x1), (2, .int x2), (3, .int x3), (4, .int x4), (5, .int x5), (6, .int x6), (7, .int x7)] [] σ) (x1 : Int32) (x2 : Int32) (x3 : Int32) (x4 : Int32) (x5 : Int32) (x6 : Int32) (x7 : Int32) (σ : Sg) (hf : f_X11_doneBy_b60 k r17 x1 x2 x3 x4 x5 x6 x7 σ = some o) : Vx q E L 8 (some .int) o 60 [(0, .ref (E.2.1 (k))), (1, .int x1), (2, .int x2), (3, .int x3), (4, .int x4), (5, .int x5), (6, .int x6), (7, .int x7)] [] σ := by
  unfold f_X11_doneBy_b60 at hf
  refine v_iinc (v := x7 + 1) (lv' := [(0, .ref (E.2.1 (k))), (1, .int x1), (2, .int x2), (3, .int x3), (4, .int x4), (5, .int x5), (6, .int x6), (7, .int (x7 + 1))]) 60 C dX11_doneBy_60 rfl (by rfl) (by decide) rfl rfl ?_
  refine v_goto (tgt := 17) 63 C dX11_doneBy_63 (by decide) ?_
  exact Vx.lv [0, 1, 2, 3, 4, 5, 6, 7] rfl (hr17 x1 x2 x3 x4 x5 x6 (x7 + 1) σ hf)
def f_X11_doneBy_b17 (k : Nat)  : Nat → Int32 → Int32 → Int32 → Int32 → Int32 → Int32 → Int32 → Sg → Rs
  | 0, _, _, _, _, _, _, _, _ => none
  | n + 1, x1, x2, x3, x4, x5, x6, x7, σ => if x3 ≤ x7 then (f_X11_doneBy_b66 k x6 σ) else (if (σ (k) 35) ≤ x7 then (f_X11_doneBy_b66 k x6 σ) else (p_nz x4 (if (x7 - x7 / x4 * x4) = x5 then (p_rd σ (k + 21) 16 x7 (fun v1 => p_call (f_X11_goesThrough k x1 x2 v1 σ) (fun v2 s3 => f_X11_doneBy_b60 k (f_X11_doneBy_b17 k n) x1 x2 x3 x4 x5 (x6 + v2) x7 s3))) else (f_X11_doneBy_b60 k (f_X11_doneBy_b17 k n) x1 x2 x3 x4 x5 x6 x7 σ))))
set_option maxRecDepth 100000 in
set_option maxHeartbeats 4000000 in
theorem k_X11_doneBy_b17 {q : Mc} {E : En} {L : List Nat} {o : Int32 × Sg} (C : Cx q E L cX11_doneBy 8 RX11 (some .int) (10)) (k : Nat) (hB : Bk L sh_AuntsPuzzleModel k) (n : Nat) : ∀ (x1 : Int32) (x2 : Int32) (x3 : Int32) (x4 : Int32) (x5 : Int32) (x6 : Int32) (x7 : Int32) (σ : Sg), f_X11_doneBy_b17 k n x1 x2 x3 x4 x5 x6 x7 σ = some o → Vx q E L 8 (some .int) o 17 [(0, .ref (E.2.1 (k))), (1, .int x1), (2, .int x2), (3, .int x3), (4, .int x4), (5, .int x5), (6, .int x6), (7, .int x7)] [] σ := by
  induction n with
  | zero => intro x1 x2 x3 x4 x5 x6 x7 σ hf; cases (show (none : Rs) = some o from hf)
  | succ n ih =>
    intro x1 x2 x3 x4 x5 x6 x7 σ hf
    rw [f_X11_doneBy_b17] at hf
    refine v_iload 17 C dX11_doneBy_17 rfl ?_
    refine v_iload_n 19 C dX11_doneBy_19 rfl rfl ?_
    refine v_icmp_ge (tgt := 66) 20 C dX11_doneBy_20 (by decide) hf (fun hf => ?_) (fun hf => ?_)
    · exact Vx.lv [0, 6] rfl (k_X11_doneBy_b66 C k hB x6 σ hf)
    · refine v_iload 23 C dX11_doneBy_23 rfl ?_
      refine v_aload_n 25 C dX11_doneBy_25 rfl rfl ?_
      refine v_getI (dum := 0) 26 C lk_X11_223 (hB 0 _ rfl) (by decide) rfl dX11_doneBy_26 ?_
      refine v_icmp_ge (tgt := 66) 29 C dX11_doneBy_29 (by decide) hf (fun hf => ?_) (fun hf => ?_)
      · exact Vx.lv [0, 6] rfl (k_X11_doneBy_b66 C k hB x6 σ hf)
      · refine v_iload 32 C dX11_doneBy_32 rfl ?_
        refine v_iload 34 C dX11_doneBy_34 rfl ?_
        refine v_irem 36 C dX11_doneBy_36 hf (fun hf => ?_)
        refine v_iload 37 C dX11_doneBy_37 rfl ?_
        refine v_icmp_ne (tgt := 60) 39 C dX11_doneBy_39 (by decide) hf (fun hf => ?_) (fun hf => ?_)
        · exact Vx.lv [0, 1, 2, 3, 4, 5, 6, 7] rfl (k_X11_doneBy_b60 C k hB (f_X11_doneBy_b17 k n) ih x1 x2 x3 x4 x5 x6 x7 σ hf)
        · refine v_iload 42 C dX11_doneBy_42 rfl ?_
          refine v_aload_n 44 C dX11_doneBy_44 rfl rfl ?_
          refine v_iload_n 45 C dX11_doneBy_45 rfl rfl ?_
          refine v_iload_n 46 C dX11_doneBy_46 rfl rfl ?_
          refine v_aload_n 47 C dX11_doneBy_47 rfl rfl ?_
          refine v_getR 48 C lk_X11_70 (hB 0 _ rfl) (by decide) rfl dX11_doneBy_48 ?_
          refine v_iload 51 C dX11_doneBy_51 rfl ?_
          refine v_iald 53 C (hB 21 _ rfl) dX11_doneBy_53 hf (fun v1 hf => ?_)
          refine v_callV (st := [.int x6]) 54 C [.int x1, .int x2, .int v1] lm_X11_248 ly_X11_goesThrough (hB 0 _ rfl) (by decide) dX11_doneBy_54 rfl (by decide) rfl (Nat.le_of_ble_eq_true rfl) (fun o1 h1 => m_X11_goesThrough k hB x1 x2 v1 σ o1 h1) hf (fun v2 s3 hf => ?_)
          refine v_iadd 57 C dX11_doneBy_57 ?_
          refine v_istore (lv' := [(0, .ref (E.2.1 (k))), (1, .int x1), (2, .int x2), (3, .int x3), (4, .int x4), (5, .int x5), (6, .int (x6 + v2)), (7, .int x7)]) 58 C dX11_doneBy_58 (by decide) rfl rfl ?_
          exact Vx.lv [0, 1, 2, 3, 4, 5, 6, 7] rfl (k_X11_doneBy_b60 C k hB (f_X11_doneBy_b17 k n) ih x1 x2 x3 x4 x5 (x6 + v2) x7 s3 hf)
def f_X11_doneBy (k : Nat) (x1 : Int32) (x2 : Int32) (x3 : Int32) (x4 : Int32) (x5 : Int32) (σ : Sg) : Rs := p_call (f_X11_findOrder k x1 σ) (fun v1 s2 => p_call (f_X11_passesAll k 1 1 s2) (fun v3 s4 => f_X11_doneBy_b17 k fu x1 x2 x3 x4 x5 0 0 s4))
set_option maxRecDepth 100000 in
set_option maxHeartbeats 4000000 in
theorem k_X11_doneBy_b0 {q : Mc} {E : En} {L : List Nat} {o : Int32 × Sg} (C : Cx q E L cX11_doneBy 8 RX11 (some .int) (10)) (k : Nat) (hB : Bk L sh_AuntsPuzzleModel k) (x1 : Int32) (x2 : Int32) (x3 : Int32) (x4 : Int32) (x5 : Int32) (σ : Sg) (hf : f_X11_doneBy k x1 x2 x3 x4 x5 σ = some o) : Vx q E L 8 (some .int) o 0 [(0, .ref (E.2.1 (k))), (1, .int x1), (2, .int x2), (3, .int x3), (4, .int x4), (5, .int x5)] [] σ := by
  unfold f_X11_doneBy at hf
  refine v_aload_n 0 C dX11_doneBy_0 rfl rfl ?_
  refine v_iload_n 1 C dX11_doneBy_1 rfl rfl ?_
  refine v_callV (st := []) 2 C [.int x1] lm_X11_244 ly_X11_findOrder (hB 0 _ rfl) (by decide) dX11_doneBy_2 rfl (by decide) rfl (Nat.le_of_ble_eq_true rfl) (fun o1 h1 => m_X11_findOrder k hB x1 σ o1 h1) hf (fun v1 s2 hf => ?_)
  refine v_aload_n 5 C dX11_doneBy_5 rfl rfl ?_
  refine v_iconst (v := 1) 6 C dX11_doneBy_6 (by decide) ?_
  refine v_iconst (v := 1) 7 C dX11_doneBy_7 (by decide) ?_
  refine v_callV (st := []) 8 C [.int 1, .int 1] lm_X11_151 ly_X11_passesAll (hB 0 _ rfl) (by decide) dX11_doneBy_8 rfl (by decide) rfl (Nat.le_of_ble_eq_true rfl) (fun o1 h1 => m_X11_passesAll k hB 1 1 s2 o1 h1) hf (fun v3 s4 hf => ?_)
  refine v_iconst (v := 0) 11 C dX11_doneBy_11 (by decide) ?_
  refine v_istore (lv' := [(0, .ref (E.2.1 (k))), (1, .int x1), (2, .int x2), (3, .int x3), (4, .int x4), (5, .int x5), (6, .int 0)]) 12 C dX11_doneBy_12 (by decide) rfl rfl ?_
  refine v_iconst (v := 0) 14 C dX11_doneBy_14 (by decide) ?_
  refine v_istore (lv' := [(0, .ref (E.2.1 (k))), (1, .int x1), (2, .int x2), (3, .int x3), (4, .int x4), (5, .int x5), (6, .int 0), (7, .int 0)]) 15 C dX11_doneBy_15 (by decide) rfl rfl ?_
  exact Vx.lv [0, 1, 2, 3, 4, 5, 6, 7] rfl (k_X11_doneBy_b17 C k hB fu x1 x2 x3 x4 x5 0 0 s4 hf)
theorem m_X11_doneBy {l : Launch} {E : En} {L : List Nat} (k : Nat) (hB : Bk L sh_AuntsPuzzleModel k) (x1 : Int32) (x2 : Int32) (x3 : Int32) (x4 : Int32) (x5 : Int32) (σ : Sg) (o : Int32 × Sg) (hf : f_X11_doneBy k x1 x2 x3 x4 x5 σ = some o) : Mi l yX11_doneBy cX11_doneBy 8 (some .int) (10) E L [.ref (E.2.1 (k)), .int x1, .int x2, .int x3, .int x4, .int x5] σ o :=
  Mi.of RX11 rfl (by decide) (Nat.le_of_ble_eq_true rfl) (fun q hq C => by subst hq; exact k_X11_doneBy_b0 C k hB x1 x2 x3 x4 x5 σ hf)
def f_X11_doneOf (k : Nat) (x1 : Int32) (x2 : Int32) (σ : Sg) : Rs := p_call (f_X11_sortsFor k x1 σ) (fun v1 s2 => p_call (f_X11_doneBy k x1 x2 16 1 0 s2) (fun v3 s4 => some (v1 + v3, s4)))
set_option maxRecDepth 100000 in
set_option maxHeartbeats 4000000 in
theorem k_X11_doneOf_b0 {q : Mc} {E : En} {L : List Nat} {o : Int32 × Sg} (C : Cx q E L cX11_doneOf 3 RX11 (some .int) (11)) (k : Nat) (hB : Bk L sh_AuntsPuzzleModel k) (x1 : Int32) (x2 : Int32) (σ : Sg) (hf : f_X11_doneOf k x1 x2 σ = some o) : Vx q E L 3 (some .int) o 0 [(0, .ref (E.2.1 (k))), (1, .int x1), (2, .int x2)] [] σ := by
  unfold f_X11_doneOf at hf
  refine v_aload_n 0 C dX11_doneOf_0 rfl rfl ?_
  refine v_iload_n 1 C dX11_doneOf_1 rfl rfl ?_
  refine v_callV (st := []) 2 C [.int x1] lm_X11_251 ly_X11_sortsFor (hB 0 _ rfl) (by decide) dX11_doneOf_2 rfl (by decide) rfl (Nat.le_of_ble_eq_true rfl) (fun o1 h1 => m_X11_sortsFor k hB x1 σ o1 h1) hf (fun v1 s2 hf => ?_)
  refine v_aload_n 5 C dX11_doneOf_5 rfl rfl ?_
  refine v_iload_n 6 C dX11_doneOf_6 rfl rfl ?_
  refine v_iload_n 7 C dX11_doneOf_7 rfl rfl ?_
  refine v_bipush (v := 16) 8 C dX11_doneOf_8 (by decide) ?_
  refine v_iconst (v := 1) 10 C dX11_doneOf_10 (by decide) ?_
  refine v_iconst (v := 0) 11 C dX11_doneOf_11 (by decide) ?_
  refine v_callV (st := [.int v1]) 12 C [.int x1, .int x2, .int 16, .int 1, .int 0] lm_X11_254 ly_X11_doneBy (hB 0 _ rfl) (by decide) dX11_doneOf_12 rfl (by decide) rfl (Nat.le_of_ble_eq_true rfl) (fun o1 h1 => m_X11_doneBy k hB x1 x2 16 1 0 s2 o1 h1) hf (fun v3 s4 hf => ?_)
  refine v_iadd 15 C dX11_doneOf_15 ?_
  exact v_iret 16 C rfl dX11_doneOf_16 hf
theorem m_X11_doneOf {l : Launch} {E : En} {L : List Nat} (k : Nat) (hB : Bk L sh_AuntsPuzzleModel k) (x1 : Int32) (x2 : Int32) (σ : Sg) (o : Int32 × Sg) (hf : f_X11_doneOf k x1 x2 σ = some o) : Mi l yX11_doneOf cX11_doneOf 3 (some .int) (11) E L [.ref (E.2.1 (k)), .int x1, .int x2] σ o :=
  Mi.of RX11 rfl (by decide) (Nat.le_of_ble_eq_true rfl) (fun q hq C => by subst hq; exact k_X11_doneOf_b0 C k hB x1 x2 σ hf)
def f_X11_done (k : Nat) (x1 : Int32) (x2 : Int32) (σ : Sg) : Rs := p_call (f_X11_isIn x1 0 4 σ) (fun v1 s2 => if v1 = 0 then (p_call (f_X11_no k (-2) s2) (fun v9 s10 => some (v9, s10))) else (p_call (f_X11_isPerson k x2 s2) (fun v3 s4 => if v3 = 0 then (p_call (f_X11_no k (-1) s4) (fun v5 s6 => some (v5, s6))) else (p_call (f_X11_doneOf k x1 x2 s4) (fun v7 s8 => some (v7, s8))))))
set_option maxRecDepth 100000 in
set_option maxHeartbeats 4000000 in
theorem k_X11_done_b0 {q : Mc} {E : En} {L : List Nat} {o : Int32 × Sg} (C : Cx q E L cX11_done 3 RX11 (some .int) (12)) (k : Nat) (hB : Bk L sh_AuntsPuzzleModel k) (x1 : Int32) (x2 : Int32) (σ : Sg) (hf : f_X11_done k x1 x2 σ = some o) : Vx q E L 3 (some .int) o 0 [(0, .ref (E.2.1 (k))), (1, .int x1), (2, .int x2)] [] σ := by
  unfold f_X11_done at hf
  refine v_iload_n 0 C dX11_done_0 rfl rfl ?_
  refine v_iconst (v := 0) 1 C dX11_done_1 (by decide) ?_
  refine v_iconst (v := 4) 2 C dX11_done_2 (by decide) ?_
  refine v_callS (st := []) 3 C [.int x1, .int 0, .int 4] lm_X11_124 lz_X11_isIn dX11_done_3 rfl (by decide) rfl (Nat.le_of_ble_eq_true rfl) (fun o1 h1 => m_X11_isIn   x1 0 4 σ o1 h1) hf (fun v1 s2 hf => ?_)
  refine v_if_ne (tgt := 16) 6 C dX11_done_6 (by decide) hf (fun hf => ?_) (fun hf => ?_)
  · refine v_aload_n 16 C dX11_done_16 rfl rfl ?_
    refine v_iload_n 17 C dX11_done_17 rfl rfl ?_
    refine v_callV (st := []) 18 C [.int x2] lm_X11_196 ly_X11_isPerson (hB 0 _ rfl) (by decide) dX11_done_18 rfl (by decide) rfl (Nat.le_of_ble_eq_true rfl) (fun o1 h1 => m_X11_isPerson k hB x2 s2 o1 h1) hf (fun v3 s4 hf => ?_)
    refine v_if_eq (tgt := 33) 21 C dX11_done_21 (by decide) hf (fun hf => ?_) (fun hf => ?_)
    · refine v_aload_n 33 C dX11_done_33 rfl rfl ?_
      refine v_iconst (v := (-1)) 34 C dX11_done_34 (by decide) ?_
      refine v_callV (st := []) 35 C [.int (-1)] lm_X11_112 ly_X11_no (hB 0 _ rfl) (by decide) dX11_done_35 rfl (by decide) rfl (Nat.le_of_ble_eq_true rfl) (fun o1 h1 => m_X11_no k hB (-1) s4 o1 h1) hf (fun v5 s6 hf => ?_)
      exact v_iret 38 C rfl dX11_done_38 hf
    · refine v_aload_n 24 C dX11_done_24 rfl rfl ?_
      refine v_iload_n 25 C dX11_done_25 rfl rfl ?_
      refine v_iload_n 26 C dX11_done_26 rfl rfl ?_
      refine v_callV (st := []) 27 C [.int x1, .int x2] lm_X11_258 ly_X11_doneOf (hB 0 _ rfl) (by decide) dX11_done_27 rfl (by decide) rfl (Nat.le_of_ble_eq_true rfl) (fun o1 h1 => m_X11_doneOf k hB x1 x2 s4 o1 h1) hf (fun v7 s8 hf => ?_)
      refine v_goto (tgt := 38) 30 C dX11_done_30 (by decide) ?_
      exact v_iret 38 C rfl dX11_done_38 hf
  · refine v_aload_n 9 C dX11_done_9 rfl rfl ?_
    refine v_bipush (v := (-2)) 10 C dX11_done_10 (by decide) ?_
    refine v_callV (st := []) 12 C [.int (-2)] lm_X11_112 ly_X11_no (hB 0 _ rfl) (by decide) dX11_done_12 rfl (by decide) rfl (Nat.le_of_ble_eq_true rfl) (fun o1 h1 => m_X11_no k hB (-2) s2 o1 h1) hf (fun v9 s10 hf => ?_)
    exact v_iret 15 C rfl dX11_done_15 hf
theorem m_X11_done {l : Launch} {E : En} {L : List Nat} (k : Nat) (hB : Bk L sh_AuntsPuzzleModel k) (x1 : Int32) (x2 : Int32) (σ : Sg) (o : Int32 × Sg) (hf : f_X11_done k x1 x2 σ = some o) : Mi l yX11_done cX11_done 3 (some .int) (12) E L [.ref (E.2.1 (k)), .int x1, .int x2] σ o :=
  Mi.of RX11 rfl (by decide) (Nat.le_of_ble_eq_true rfl) (fun q hq C => by subst hq; exact k_X11_done_b0 C k hB x1 x2 σ hf)
def f_X11_half_b70 (k : Nat) (t0 : Int32) (t2 : Int32) (t3 : Int32) (t4 : Int32) (σ : Sg) : Rs := p_call (f_X11_doneBy k t2 t3 t4 1 0 σ) (fun v1 s2 => some (t0 + v1, s2))
set_option maxRecDepth 100000 in
set_option maxHeartbeats 4000000 in
theorem k_X11_half_b70 {q : Mc} {E : En} {L : List Nat} {o : Int32 × Sg} (C : Cx q E L cX11_half 3 RX11 (some .int) (11)) (k : Nat) (hB : Bk L sh_AuntsPuzzleModel k) (t0 : Int32) (t2 : Int32) (t3 : Int32) (t4 : Int32) (σ : Sg) (hf : f_X11_half_b70 k t0 t2 t3 t4 σ = some o) : Vx q E L 3 (some .int) o 70 [] [.int t4, .int t3, .int t2, .ref (E.2.1 (k)), .int t0] σ := by
  unfold f_X11_half_b70 at hf
  refine v_iconst (v := 1) 70 C dX11_half_70 (by decide) ?_
  refine v_iconst (v := 0) 71 C dX11_half_71 (by decide) ?_
  refine v_callV (st := [.int t0]) 72 C [.int t2, .int t3, .int t4, .int 1, .int 0] lm_X11_254 ly_X11_doneBy (hB 0 _ rfl) (by decide) dX11_half_72 rfl (by decide) rfl (Nat.le_of_ble_eq_true rfl) (fun o1 h1 => m_X11_doneBy k hB t2 t3 t4 1 0 σ o1 h1) hf (fun v1 s2 hf => ?_)
  refine v_iadd 75 C dX11_half_75 ?_
  exact v_iret 76 C rfl dX11_half_76 hf
def f_X11_half (k : Nat) (x1 : Int32) (x2 : Int32) (σ : Sg) : Rs := p_call (f_X11_isIn x1 0 4 σ) (fun v1 s2 => if v1 = 0 then (p_call (f_X11_no k (-2) s2) (fun v11 s12 => some (v11, s12))) else (p_call (f_X11_isPerson k x2 s2) (fun v3 s4 => if v3 = 0 then (p_call (f_X11_no k (-1) s4) (fun v9 s10 => some (v9, s10))) else (p_call (f_X11_findOrder k x1 s4) (fun v5 s6 => if (s6 (k) 35) = 0 then (some (0, s6)) else (p_call (f_X11_sortsFor k x1 s6) (fun v7 s8 => if (2 : Int32) ≤ (s8 (k) 35) then (f_X11_half_b70 k v7 x1 x2 ((s8 (k) 35) / 2) s8) else (f_X11_half_b70 k v7 x1 x2 1 s8))))))))
set_option maxRecDepth 100000 in
set_option maxHeartbeats 4000000 in
theorem k_X11_half_b0 {q : Mc} {E : En} {L : List Nat} {o : Int32 × Sg} (C : Cx q E L cX11_half 3 RX11 (some .int) (11)) (k : Nat) (hB : Bk L sh_AuntsPuzzleModel k) (x1 : Int32) (x2 : Int32) (σ : Sg) (hf : f_X11_half k x1 x2 σ = some o) : Vx q E L 3 (some .int) o 0 [(0, .ref (E.2.1 (k))), (1, .int x1), (2, .int x2)] [] σ := by
  unfold f_X11_half at hf
  refine v_iload_n 0 C dX11_half_0 rfl rfl ?_
  refine v_iconst (v := 0) 1 C dX11_half_1 (by decide) ?_
  refine v_iconst (v := 4) 2 C dX11_half_2 (by decide) ?_
  refine v_callS (st := []) 3 C [.int x1, .int 0, .int 4] lm_X11_124 lz_X11_isIn dX11_half_3 rfl (by decide) rfl (Nat.le_of_ble_eq_true rfl) (fun o1 h1 => m_X11_isIn   x1 0 4 σ o1 h1) hf (fun v1 s2 hf => ?_)
  refine v_if_ne (tgt := 16) 6 C dX11_half_6 (by decide) hf (fun hf => ?_) (fun hf => ?_)
  · refine v_aload_n 16 C dX11_half_16 rfl rfl ?_
    refine v_iload_n 17 C dX11_half_17 rfl rfl ?_
    refine v_callV (st := []) 18 C [.int x2] lm_X11_196 ly_X11_isPerson (hB 0 _ rfl) (by decide) dX11_half_18 rfl (by decide) rfl (Nat.le_of_ble_eq_true rfl) (fun o1 h1 => m_X11_isPerson k hB x2 s2 o1 h1) hf (fun v3 s4 hf => ?_)
    refine v_if_ne (tgt := 30) 21 C dX11_half_21 (by decide) hf (fun hf => ?_) (fun hf => ?_)
    · refine v_aload_n 30 C dX11_half_30 rfl rfl ?_
      refine v_iload_n 31 C dX11_half_31 rfl rfl ?_
      refine v_callV (st := []) 32 C [.int x1] lm_X11_244 ly_X11_findOrder (hB 0 _ rfl) (by decide) dX11_half_32 rfl (by decide) rfl (Nat.le_of_ble_eq_true rfl) (fun o1 h1 => m_X11_findOrder k hB x1 s4 o1 h1) hf (fun v5 s6 hf => ?_)
      refine v_aload_n 35 C dX11_half_35 rfl rfl ?_
      refine v_getI (dum := 0) 36 C lk_X11_223 (hB 0 _ rfl) (by decide) rfl dX11_half_36 ?_
      refine v_if_ne (tgt := 44) 39 C dX11_half_39 (by decide) hf (fun hf => ?_) (fun hf => ?_)
      · refine v_aload_n 44 C dX11_half_44 rfl rfl ?_
        refine v_iload_n 45 C dX11_half_45 rfl rfl ?_
        refine v_callV (st := []) 46 C [.int x1] lm_X11_251 ly_X11_sortsFor (hB 0 _ rfl) (by decide) dX11_half_46 rfl (by decide) rfl (Nat.le_of_ble_eq_true rfl) (fun o1 h1 => m_X11_sortsFor k hB x1 s6 o1 h1) hf (fun v7 s8 hf => ?_)
        refine v_aload_n 49 C dX11_half_49 rfl rfl ?_
        refine v_iload_n 50 C dX11_half_50 rfl rfl ?_
        refine v_iload_n 51 C dX11_half_51 rfl rfl ?_
        refine v_aload_n 52 C dX11_half_52 rfl rfl ?_
        refine v_getI (dum := 0) 53 C lk_X11_223 (hB 0 _ rfl) (by decide) rfl dX11_half_53 ?_
        refine v_iconst (v := 2) 56 C dX11_half_56 (by decide) ?_
        refine v_icmp_ge (tgt := 64) 57 C dX11_half_57 (by decide) hf (fun hf => ?_) (fun hf => ?_)
        · refine v_aload_n 64 C dX11_half_64 rfl rfl ?_
          refine v_getI (dum := 0) 65 C lk_X11_223 (hB 0 _ rfl) (by decide) rfl dX11_half_65 ?_
          refine v_iconst (v := 2) 68 C dX11_half_68 (by decide) ?_
          refine v_idiv_c 69 C dX11_half_69 (by decide) ?_
          exact Vx.lv [] rfl (k_X11_half_b70 C k hB v7 x1 x2 ((s8 (k) 35) / 2) s8 hf)
        · refine v_iconst (v := 1) 60 C dX11_half_60 (by decide) ?_
          refine v_goto (tgt := 70) 61 C dX11_half_61 (by decide) ?_
          exact Vx.lv [] rfl (k_X11_half_b70 C k hB v7 x1 x2 1 s8 hf)
      · refine v_iconst (v := 0) 42 C dX11_half_42 (by decide) ?_
        exact v_iret 43 C rfl dX11_half_43 hf
    · refine v_aload_n 24 C dX11_half_24 rfl rfl ?_
      refine v_iconst (v := (-1)) 25 C dX11_half_25 (by decide) ?_
      refine v_callV (st := []) 26 C [.int (-1)] lm_X11_112 ly_X11_no (hB 0 _ rfl) (by decide) dX11_half_26 rfl (by decide) rfl (Nat.le_of_ble_eq_true rfl) (fun o1 h1 => m_X11_no k hB (-1) s4 o1 h1) hf (fun v9 s10 hf => ?_)
      exact v_iret 29 C rfl dX11_half_29 hf
  · refine v_aload_n 9 C dX11_half_9 rfl rfl ?_
    refine v_bipush (v := (-2)) 10 C dX11_half_10 (by decide) ?_
    refine v_callV (st := []) 12 C [.int (-2)] lm_X11_112 ly_X11_no (hB 0 _ rfl) (by decide) dX11_half_12 rfl (by decide) rfl (Nat.le_of_ble_eq_true rfl) (fun o1 h1 => m_X11_no k hB (-2) s2 o1 h1) hf (fun v11 s12 hf => ?_)
    exact v_iret 15 C rfl dX11_half_15 hf
theorem m_X11_half {l : Launch} {E : En} {L : List Nat} (k : Nat) (hB : Bk L sh_AuntsPuzzleModel k) (x1 : Int32) (x2 : Int32) (σ : Sg) (o : Int32 × Sg) (hf : f_X11_half k x1 x2 σ = some o) : Mi l yX11_half cX11_half 3 (some .int) (11) E L [.ref (E.2.1 (k)), .int x1, .int x2] σ o :=
  Mi.of RX11 rfl (by decide) (Nat.le_of_ble_eq_true rfl) (fun q hq C => by subst hq; exact k_X11_half_b0 C k hB x1 x2 σ hf)
def f_X11_bestRule_b43 (k : Nat) (r18 : Int32 → Int32 → Int32 → Sg → Rs) (x1 : Int32) (x3 : Int32) (t0 : Int32) (σ : Sg) : Rs := r18 x1 t0 (x3 + 1) σ
set_option maxRecDepth 100000 in
set_option maxHeartbeats 4000000 in
theorem k_X11_bestRule_b43 {q : Mc} {E : En} {L : List Nat} {o : Int32 × Sg} (C : Cx q E L cX11_bestRule 4 RX11 (some .int) (12)) (k : Nat) (hB : Bk L sh_AuntsPuzzleModel k) (r18 : Int32 → Int32 → Int32 → Sg → Rs) (hr18 : ∀ (x1 : Int32) (x2 : Int32) (x3 : Int32) (σ : Sg), r18 x1 x2 x3 σ = some o → Vx q E L 4 (some .int) o 18 [(0, .ref (E.2.1 (k))), (1, .int x1), (2, .int x2), (3, .int x3)] [] σ) (x1 : Int32) (x3 : Int32) (t0 : Int32) (σ : Sg) (hf : f_X11_bestRule_b43 k r18 x1 x3 t0 σ = some o) : Vx q E L 4 (some .int) o 43 [(0, .ref (E.2.1 (k))), (1, .int x1), (3, .int x3)] [.int t0] σ := by
  unfold f_X11_bestRule_b43 at hf
  refine v_istore_n (lv' := [(0, .ref (E.2.1 (k))), (1, .int x1), (3, .int x3), (2, .int t0)]) 43 C dX11_bestRule_43 rfl (by decide) rfl rfl ?_
  refine v_iinc (v := x3 + 1) (lv' := [(0, .ref (E.2.1 (k))), (1, .int x1), (3, .int (x3 + 1)), (2, .int t0)]) 44 C dX11_bestRule_44 rfl (by rfl) (by decide) rfl rfl ?_
  refine v_goto (tgt := 18) 47 C dX11_bestRule_47 (by decide) ?_
  exact Vx.lv [0, 1, 3, 2] rfl (hr18 x1 t0 (x3 + 1) σ hf)
def f_X11_bestRule_b18 (k : Nat)  : Nat → Int32 → Int32 → Int32 → Sg → Rs
  | 0, _, _, _, _ => none
  | n + 1, x1, x2, x3, σ => if 5 ≤ x3 then (some (x2, σ)) else (p_call (f_X11_doneOf k x3 x1 σ) (fun v1 s2 => p_call (f_X11_doneOf k x2 x1 s2) (fun v3 s4 => if v3 ≤ v1 then (f_X11_bestRule_b43 k (f_X11_bestRule_b18 k n) x1 x3 x2 s4) else (f_X11_bestRule_b43 k (f_X11_bestRule_b18 k n) x1 x3 x3 s4))))
set_option maxRecDepth 100000 in
set_option maxHeartbeats 4000000 in
theorem k_X11_bestRule_b18 {q : Mc} {E : En} {L : List Nat} {o : Int32 × Sg} (C : Cx q E L cX11_bestRule 4 RX11 (some .int) (12)) (k : Nat) (hB : Bk L sh_AuntsPuzzleModel k) (n : Nat) : ∀ (x1 : Int32) (x2 : Int32) (x3 : Int32) (σ : Sg), f_X11_bestRule_b18 k n x1 x2 x3 σ = some o → Vx q E L 4 (some .int) o 18 [(0, .ref (E.2.1 (k))), (1, .int x1), (2, .int x2), (3, .int x3)] [] σ := by
  induction n with
  | zero => intro x1 x2 x3 σ hf; cases (show (none : Rs) = some o from hf)
  | succ n ih =>
    intro x1 x2 x3 σ hf
    rw [f_X11_bestRule_b18] at hf
    refine v_iload_n 18 C dX11_bestRule_18 rfl rfl ?_
    refine v_iconst (v := 5) 19 C dX11_bestRule_19 (by decide) ?_
    refine v_icmp_ge (tgt := 50) 20 C dX11_bestRule_20 (by decide) hf (fun hf => ?_) (fun hf => ?_)
    · refine v_iload_n 50 C dX11_bestRule_50 rfl rfl ?_
      exact v_iret 51 C rfl dX11_bestRule_51 hf
    · refine v_aload_n 23 C dX11_bestRule_23 rfl rfl ?_
      refine v_iload_n 24 C dX11_bestRule_24 rfl rfl ?_
      refine v_iload_n 25 C dX11_bestRule_25 rfl rfl ?_
      refine v_callV (st := []) 26 C [.int x3, .int x1] lm_X11_258 ly_X11_doneOf (hB 0 _ rfl) (by decide) dX11_bestRule_26 rfl (by decide) rfl (Nat.le_of_ble_eq_true rfl) (fun o1 h1 => m_X11_doneOf k hB x3 x1 σ o1 h1) hf (fun v1 s2 hf => ?_)
      refine v_aload_n 29 C dX11_bestRule_29 rfl rfl ?_
      refine v_iload_n 30 C dX11_bestRule_30 rfl rfl ?_
      refine v_iload_n 31 C dX11_bestRule_31 rfl rfl ?_
      refine v_callV (st := [.int v1]) 32 C [.int x2, .int x1] lm_X11_258 ly_X11_doneOf (hB 0 _ rfl) (by decide) dX11_bestRule_32 rfl (by decide) rfl (Nat.le_of_ble_eq_true rfl) (fun o1 h1 => m_X11_doneOf k hB x2 x1 s2 o1 h1) hf (fun v3 s4 hf => ?_)
      refine v_icmp_ge (tgt := 42) 35 C dX11_bestRule_35 (by decide) hf (fun hf => ?_) (fun hf => ?_)
      · refine v_iload_n 42 C dX11_bestRule_42 rfl rfl ?_
        exact Vx.lv [0, 1, 3] rfl (k_X11_bestRule_b43 C k hB (f_X11_bestRule_b18 k n) ih x1 x3 x2 s4 hf)
      · refine v_iload_n 38 C dX11_bestRule_38 rfl rfl ?_
        refine v_goto (tgt := 43) 39 C dX11_bestRule_39 (by decide) ?_
        exact Vx.lv [0, 1, 3] rfl (k_X11_bestRule_b43 C k hB (f_X11_bestRule_b18 k n) ih x1 x3 x3 s4 hf)
def f_X11_bestRule (k : Nat) (x1 : Int32) (σ : Sg) : Rs := p_call (f_X11_isPerson k x1 σ) (fun v1 s2 => if v1 = 0 then (p_call (f_X11_no k (-1) s2) (fun v3 s4 => some (v3, s4))) else (f_X11_bestRule_b18 k fu x1 0 1 s2))
set_option maxRecDepth 100000 in
set_option maxHeartbeats 4000000 in
theorem k_X11_bestRule_b0 {q : Mc} {E : En} {L : List Nat} {o : Int32 × Sg} (C : Cx q E L cX11_bestRule 4 RX11 (some .int) (12)) (k : Nat) (hB : Bk L sh_AuntsPuzzleModel k) (x1 : Int32) (σ : Sg) (hf : f_X11_bestRule k x1 σ = some o) : Vx q E L 4 (some .int) o 0 [(0, .ref (E.2.1 (k))), (1, .int x1)] [] σ := by
  unfold f_X11_bestRule at hf
  refine v_aload_n 0 C dX11_bestRule_0 rfl rfl ?_
  refine v_iload_n 1 C dX11_bestRule_1 rfl rfl ?_
  refine v_callV (st := []) 2 C [.int x1] lm_X11_196 ly_X11_isPerson (hB 0 _ rfl) (by decide) dX11_bestRule_2 rfl (by decide) rfl (Nat.le_of_ble_eq_true rfl) (fun o1 h1 => m_X11_isPerson k hB x1 σ o1 h1) hf (fun v1 s2 hf => ?_)
  refine v_if_ne (tgt := 14) 5 C dX11_bestRule_5 (by decide) hf (fun hf => ?_) (fun hf => ?_)
  · refine v_iconst (v := 0) 14 C dX11_bestRule_14 (by decide) ?_
    refine v_istore_n (lv' := [(0, .ref (E.2.1 (k))), (1, .int x1), (2, .int 0)]) 15 C dX11_bestRule_15 rfl (by decide) rfl rfl ?_
    refine v_iconst (v := 1) 16 C dX11_bestRule_16 (by decide) ?_
    refine v_istore_n (lv' := [(0, .ref (E.2.1 (k))), (1, .int x1), (2, .int 0), (3, .int 1)]) 17 C dX11_bestRule_17 rfl (by decide) rfl rfl ?_
    exact Vx.lv [0, 1, 2, 3] rfl (k_X11_bestRule_b18 C k hB fu x1 0 1 s2 hf)
  · refine v_aload_n 8 C dX11_bestRule_8 rfl rfl ?_
    refine v_iconst (v := (-1)) 9 C dX11_bestRule_9 (by decide) ?_
    refine v_callV (st := []) 10 C [.int (-1)] lm_X11_112 ly_X11_no (hB 0 _ rfl) (by decide) dX11_bestRule_10 rfl (by decide) rfl (Nat.le_of_ble_eq_true rfl) (fun o1 h1 => m_X11_no k hB (-1) s2 o1 h1) hf (fun v3 s4 hf => ?_)
    exact v_iret 13 C rfl dX11_bestRule_13 hf
theorem m_X11_bestRule {l : Launch} {E : En} {L : List Nat} (k : Nat) (hB : Bk L sh_AuntsPuzzleModel k) (x1 : Int32) (σ : Sg) (o : Int32 × Sg) (hf : f_X11_bestRule k x1 σ = some o) : Mi l yX11_bestRule cX11_bestRule 4 (some .int) (12) E L [.ref (E.2.1 (k)), .int x1] σ o :=
  Mi.of RX11 rfl (by decide) (Nat.le_of_ble_eq_true rfl) (fun q hq C => by subst hq; exact k_X11_bestRule_b0 C k hB x1 σ hf)
def f_X11_tableOf_b62 (k : Nat) (x1 : Int32) (t0 : Int32) (t1 : Int32) (σ : Sg) : Rs := p_call (f_X11_sortsFor k x1 σ) (fun v1 s2 => some ((t0 + t1) + v1, s2))
set_option maxRecDepth 100000 in
set_option maxHeartbeats 4000000 in
theorem k_X11_tableOf_b62 {q : Mc} {E : En} {L : List Nat} {o : Int32 × Sg} (C : Cx q E L cX11_tableOf 6 RX11 (some .int) (11)) (k : Nat) (hB : Bk L sh_AuntsPuzzleModel k) (x1 : Int32) (t0 : Int32) (t1 : Int32) (σ : Sg) (hf : f_X11_tableOf_b62 k x1 t0 t1 σ = some o) : Vx q E L 6 (some .int) o 62 [(0, .ref (E.2.1 (k))), (1, .int x1)] [.int t1, .int t0] σ := by
  unfold f_X11_tableOf_b62 at hf
  refine v_iadd 62 C dX11_tableOf_62 ?_
  refine v_aload_n 63 C dX11_tableOf_63 rfl rfl ?_
  refine v_iload_n 64 C dX11_tableOf_64 rfl rfl ?_
  refine v_callV (st := [.int (t0 + t1)]) 65 C [.int x1] lm_X11_251 ly_X11_sortsFor (hB 0 _ rfl) (by decide) dX11_tableOf_65 rfl (by decide) rfl (Nat.le_of_ble_eq_true rfl) (fun o1 h1 => m_X11_sortsFor k hB x1 σ o1 h1) hf (fun v1 s2 hf => ?_)
  refine v_iadd 68 C dX11_tableOf_68 ?_
  exact v_iret 69 C rfl dX11_tableOf_69 hf
def f_X11_tableOf_b37 (k : Nat) (r5 : Int32 → Int32 → Int32 → Int32 → Sg → Rs) (x1 : Int32) (x2 : Int32) (x4 : Int32) (t0 : Int32) (σ : Sg) : Rs := r5 x1 x2 t0 (x4 + 1) σ
set_option maxRecDepth 100000 in
set_option maxHeartbeats 4000000 in
theorem k_X11_tableOf_b37 {q : Mc} {E : En} {L : List Nat} {o : Int32 × Sg} (C : Cx q E L cX11_tableOf 6 RX11 (some .int) (11)) (k : Nat) (hB : Bk L sh_AuntsPuzzleModel k) (r5 : Int32 → Int32 → Int32 → Int32 → Sg → Rs) (hr5 : ∀ (x1 : Int32) (x2 : Int32) (x3 : Int32) (x4 : Int32) (σ : Sg), r5 x1 x2 x3 x4 σ = some o → Vx q E L 6 (some .int) o 5 [(0, .ref (E.2.1 (k))), (1, .int x1), (2, .int x2), (3, .int x3), (4, .int x4)] [] σ) (x1 : Int32) (x2 : Int32) (x4 : Int32) (t0 : Int32) (σ : Sg) (hf : f_X11_tableOf_b37 k r5 x1 x2 x4 t0 σ = some o) : Vx q E L 6 (some .int) o 37 [(0, .ref (E.2.1 (k))), (1, .int x1), (2, .int x2), (4, .int x4)] [.int t0] σ := by
  unfold f_X11_tableOf_b37 at hf
  refine v_istore_n (lv' := [(0, .ref (E.2.1 (k))), (1, .int x1), (2, .int x2), (4, .int x4), (3, .int t0)]) 37 C dX11_tableOf_37 rfl (by decide) rfl rfl ?_
  refine v_iinc (v := x4 + 1) (lv' := [(0, .ref (E.2.1 (k))), (1, .int x1), (2, .int x2), (4, .int (x4 + 1)), (3, .int t0)]) 38 C dX11_tableOf_38 rfl (by rfl) (by decide) rfl rfl ?_
  refine v_goto (tgt := 5) 41 C dX11_tableOf_41 (by decide) ?_
  exact Vx.lv [0, 1, 2, 4, 3] rfl (hr5 x1 x2 t0 (x4 + 1) σ hf)
def f_X11_tableOf_b5 (k : Nat)  : Nat → Int32 → Int32 → Int32 → Int32 → Sg → Rs
  | 0, _, _, _, _, _ => none
  | n + 1, x1, x2, x3, x4, σ => if x2 ≤ x4 then (if x2 ≤ 3 then (f_X11_tableOf_b62 k x1 x3 0 σ) else (f_X11_tableOf_b62 k x1 x3 ((x2 - 3) * (x3 / 10)) σ)) else (p_call (f_X11_doneBy k x1 x4 16 x2 x4 σ) (fun v1 s2 => if v1 ≤ x3 then (f_X11_tableOf_b37 k (f_X11_tableOf_b5 k n) x1 x2 x4 x3 s2) else (f_X11_tableOf_b37 k (f_X11_tableOf_b5 k n) x1 x2 x4 v1 s2)))
set_option maxRecDepth 100000 in
set_option maxHeartbeats 4000000 in
theorem k_X11_tableOf_b5 {q : Mc} {E : En} {L : List Nat} {o : Int32 × Sg} (C : Cx q E L cX11_tableOf 6 RX11 (some .int) (11)) (k : Nat) (hB : Bk L sh_AuntsPuzzleModel k) (n : Nat) : ∀ (x1 : Int32) (x2 : Int32) (x3 : Int32) (x4 : Int32) (σ : Sg), f_X11_tableOf_b5 k n x1 x2 x3 x4 σ = some o → Vx q E L 6 (some .int) o 5 [(0, .ref (E.2.1 (k))), (1, .int x1), (2, .int x2), (3, .int x3), (4, .int x4)] [] σ := by
  induction n with
  | zero => intro x1 x2 x3 x4 σ hf; cases (show (none : Rs) = some o from hf)
  | succ n ih =>
    intro x1 x2 x3 x4 σ hf
    rw [f_X11_tableOf_b5] at hf
    refine v_iload 5 C dX11_tableOf_5 rfl ?_
    refine v_iload_n 7 C dX11_tableOf_7 rfl rfl ?_
    refine v_icmp_ge (tgt := 44) 8 C dX11_tableOf_8 (by decide) hf (fun hf => ?_) (fun hf => ?_)
    · refine v_iload_n 44 C dX11_tableOf_44 rfl rfl ?_
      refine v_iload_n 45 C dX11_tableOf_45 rfl rfl ?_
      refine v_iconst (v := 3) 46 C dX11_tableOf_46 (by decide) ?_
      refine v_icmp_le (tgt := 61) 47 C dX11_tableOf_47 (by decide) hf (fun hf => ?_) (fun hf => ?_)
      · refine v_iconst (v := 0) 61 C dX11_tableOf_61 (by decide) ?_
        exact Vx.lv [0, 1] rfl (k_X11_tableOf_b62 C k hB x1 x3 0 σ hf)
      · refine v_iload_n 50 C dX11_tableOf_50 rfl rfl ?_
        refine v_iconst (v := 3) 51 C dX11_tableOf_51 (by decide) ?_
        refine v_isub 52 C dX11_tableOf_52 ?_
        refine v_iload_n 53 C dX11_tableOf_53 rfl rfl ?_
        refine v_bipush (v := 10) 54 C dX11_tableOf_54 (by decide) ?_
        refine v_idiv_c 56 C dX11_tableOf_56 (by decide) ?_
        refine v_imul 57 C dX11_tableOf_57 ?_
        refine v_goto (tgt := 62) 58 C dX11_tableOf_58 (by decide) ?_
        exact Vx.lv [0, 1] rfl (k_X11_tableOf_b62 C k hB x1 x3 ((x2 - 3) * (x3 / 10)) σ hf)
    · refine v_aload_n 11 C dX11_tableOf_11 rfl rfl ?_
      refine v_iload_n 12 C dX11_tableOf_12 rfl rfl ?_
      refine v_iload 13 C dX11_tableOf_13 rfl ?_
      refine v_bipush (v := 16) 15 C dX11_tableOf_15 (by decide) ?_
      refine v_iload_n 17 C dX11_tableOf_17 rfl rfl ?_
      refine v_iload 18 C dX11_tableOf_18 rfl ?_
      refine v_callV (st := []) 20 C [.int x1, .int x4, .int 16, .int x2, .int x4] lm_X11_254 ly_X11_doneBy (hB 0 _ rfl) (by decide) dX11_tableOf_20 rfl (by decide) rfl (Nat.le_of_ble_eq_true rfl) (fun o1 h1 => m_X11_doneBy k hB x1 x4 16 x2 x4 σ o1 h1) hf (fun v1 s2 hf => ?_)
      refine v_istore (lv' := [(0, .ref (E.2.1 (k))), (1, .int x1), (2, .int x2), (3, .int x3), (4, .int x4), (5, .int v1)]) 23 C dX11_tableOf_23 (by decide) rfl rfl ?_
      refine v_iload 25 C dX11_tableOf_25 rfl ?_
      refine v_iload_n 27 C dX11_tableOf_27 rfl rfl ?_
      refine v_icmp_le (tgt := 36) 28 C dX11_tableOf_28 (by decide) hf (fun hf => ?_) (fun hf => ?_)
      · refine v_iload_n 36 C dX11_tableOf_36 rfl rfl ?_
        exact Vx.lv [0, 1, 2, 4] rfl (k_X11_tableOf_b37 C k hB (f_X11_tableOf_b5 k n) ih x1 x2 x4 x3 s2 hf)
      · refine v_iload 31 C dX11_tableOf_31 rfl ?_
        refine v_goto (tgt := 37) 33 C dX11_tableOf_33 (by decide) ?_
        exact Vx.lv [0, 1, 2, 4] rfl (k_X11_tableOf_b37 C k hB (f_X11_tableOf_b5 k n) ih x1 x2 x4 v1 s2 hf)
def f_X11_tableOf (k : Nat) (x1 : Int32) (x2 : Int32) (σ : Sg) : Rs := f_X11_tableOf_b5 k fu x1 x2 0 0 σ
set_option maxRecDepth 100000 in
set_option maxHeartbeats 4000000 in
theorem k_X11_tableOf_b0 {q : Mc} {E : En} {L : List Nat} {o : Int32 × Sg} (C : Cx q E L cX11_tableOf 6 RX11 (some .int) (11)) (k : Nat) (hB : Bk L sh_AuntsPuzzleModel k) (x1 : Int32) (x2 : Int32) (σ : Sg) (hf : f_X11_tableOf k x1 x2 σ = some o) : Vx q E L 6 (some .int) o 0 [(0, .ref (E.2.1 (k))), (1, .int x1), (2, .int x2)] [] σ := by
  unfold f_X11_tableOf at hf
  refine v_iconst (v := 0) 0 C dX11_tableOf_0 (by decide) ?_
  refine v_istore_n (lv' := [(0, .ref (E.2.1 (k))), (1, .int x1), (2, .int x2), (3, .int 0)]) 1 C dX11_tableOf_1 rfl (by decide) rfl rfl ?_
  refine v_iconst (v := 0) 2 C dX11_tableOf_2 (by decide) ?_
  refine v_istore (lv' := [(0, .ref (E.2.1 (k))), (1, .int x1), (2, .int x2), (3, .int 0), (4, .int 0)]) 3 C dX11_tableOf_3 (by decide) rfl rfl ?_
  exact Vx.lv [0, 1, 2, 3, 4] rfl (k_X11_tableOf_b5 C k hB fu x1 x2 0 0 σ hf)
theorem m_X11_tableOf {l : Launch} {E : En} {L : List Nat} (k : Nat) (hB : Bk L sh_AuntsPuzzleModel k) (x1 : Int32) (x2 : Int32) (σ : Sg) (o : Int32 × Sg) (hf : f_X11_tableOf k x1 x2 σ = some o) : Mi l yX11_tableOf cX11_tableOf 6 (some .int) (11) E L [.ref (E.2.1 (k)), .int x1, .int x2] σ o :=
  Mi.of RX11 rfl (by decide) (Nat.le_of_ble_eq_true rfl) (fun q hq C => by subst hq; exact k_X11_tableOf_b0 C k hB x1 x2 σ hf)
def f_X11_table (k : Nat) (x1 : Int32) (x2 : Int32) (σ : Sg) : Rs := p_call (f_X11_isIn x1 0 4 σ) (fun v1 s2 => if v1 = 0 then (p_call (f_X11_no k (-2) s2) (fun v9 s10 => some (v9, s10))) else (p_call (f_X11_bound x2 1 (s2 (k) 13) s2) (fun v3 s4 => if v3 = 0 then (p_call (f_X11_tableOf k x1 x2 s4) (fun v5 s6 => some (v5, s6))) else (p_call (f_X11_no k v3 s4) (fun v7 s8 => some (v7, s8))))))
set_option maxRecDepth 100000 in
set_option maxHeartbeats 4000000 in
theorem k_X11_table_b0 {q : Mc} {E : En} {L : List Nat} {o : Int32 × Sg} (C : Cx q E L cX11_table 4 RX11 (some .int) (12)) (k : Nat) (hB : Bk L sh_AuntsPuzzleModel k) (x1 : Int32) (x2 : Int32) (σ : Sg) (hf : f_X11_table k x1 x2 σ = some o) : Vx q E L 4 (some .int) o 0 [(0, .ref (E.2.1 (k))), (1, .int x1), (2, .int x2)] [] σ := by
  unfold f_X11_table at hf
  refine v_iload_n 0 C dX11_table_0 rfl rfl ?_
  refine v_iconst (v := 0) 1 C dX11_table_1 (by decide) ?_
  refine v_iconst (v := 4) 2 C dX11_table_2 (by decide) ?_
  refine v_callS (st := []) 3 C [.int x1, .int 0, .int 4] lm_X11_124 lz_X11_isIn dX11_table_3 rfl (by decide) rfl (Nat.le_of_ble_eq_true rfl) (fun o1 h1 => m_X11_isIn   x1 0 4 σ o1 h1) hf (fun v1 s2 hf => ?_)
  refine v_if_ne (tgt := 16) 6 C dX11_table_6 (by decide) hf (fun hf => ?_) (fun hf => ?_)
  · refine v_iload_n 16 C dX11_table_16 rfl rfl ?_
    refine v_iconst (v := 1) 17 C dX11_table_17 (by decide) ?_
    refine v_aload_n 18 C dX11_table_18 rfl rfl ?_
    refine v_getI (dum := 0) 19 C lk_X11_95 (hB 0 _ rfl) (by decide) rfl dX11_table_19 ?_
    refine v_callS (st := []) 22 C [.int x2, .int 1, .int (s2 (k) 13)] lm_X11_105 lz_X11_bound dX11_table_22 rfl (by decide) rfl (Nat.le_of_ble_eq_true rfl) (fun o1 h1 => m_X11_bound   x2 1 (s2 (k) 13) s2 o1 h1) hf (fun v3 s4 hf => ?_)
    refine v_istore_n (lv' := [(0, .ref (E.2.1 (k))), (1, .int x1), (2, .int x2), (3, .int v3)]) 25 C dX11_table_25 rfl (by decide) rfl rfl ?_
    refine v_iload_n 26 C dX11_table_26 rfl rfl ?_
    refine v_if_eq (tgt := 38) 27 C dX11_table_27 (by decide) hf (fun hf => ?_) (fun hf => ?_)
    · refine v_aload_n 38 C dX11_table_38 rfl rfl ?_
      refine v_iload_n 39 C dX11_table_39 rfl rfl ?_
      refine v_iload_n 40 C dX11_table_40 rfl rfl ?_
      refine v_callV (st := []) 41 C [.int x1, .int x2] lm_X11_261 ly_X11_tableOf (hB 0 _ rfl) (by decide) dX11_table_41 rfl (by decide) rfl (Nat.le_of_ble_eq_true rfl) (fun o1 h1 => m_X11_tableOf k hB x1 x2 s4 o1 h1) hf (fun v5 s6 hf => ?_)
      exact v_iret 44 C rfl dX11_table_44 hf
    · refine v_aload_n 30 C dX11_table_30 rfl rfl ?_
      refine v_iload_n 31 C dX11_table_31 rfl rfl ?_
      refine v_callV (st := []) 32 C [.int v3] lm_X11_112 ly_X11_no (hB 0 _ rfl) (by decide) dX11_table_32 rfl (by decide) rfl (Nat.le_of_ble_eq_true rfl) (fun o1 h1 => m_X11_no k hB v3 s4 o1 h1) hf (fun v7 s8 hf => ?_)
      refine v_goto (tgt := 44) 35 C dX11_table_35 (by decide) ?_
      exact v_iret 44 C rfl dX11_table_44 hf
  · refine v_aload_n 9 C dX11_table_9 rfl rfl ?_
    refine v_bipush (v := (-2)) 10 C dX11_table_10 (by decide) ?_
    refine v_callV (st := []) 12 C [.int (-2)] lm_X11_112 ly_X11_no (hB 0 _ rfl) (by decide) dX11_table_12 rfl (by decide) rfl (Nat.le_of_ble_eq_true rfl) (fun o1 h1 => m_X11_no k hB (-2) s2 o1 h1) hf (fun v9 s10 hf => ?_)
    exact v_iret 15 C rfl dX11_table_15 hf
theorem m_X11_table {l : Launch} {E : En} {L : List Nat} (k : Nat) (hB : Bk L sh_AuntsPuzzleModel k) (x1 : Int32) (x2 : Int32) (σ : Sg) (o : Int32 × Sg) (hf : f_X11_table k x1 x2 σ = some o) : Mi l yX11_table cX11_table 4 (some .int) (12) E L [.ref (E.2.1 (k)), .int x1, .int x2] σ o :=
  Mi.of RX11 rfl (by decide) (Nat.le_of_ble_eq_true rfl) (fun q hq C => by subst hq; exact k_X11_table_b0 C k hB x1 x2 σ hf)
def f_X11_line_b58 (k : Nat) (r30 : Int32 → Int32 → Int32 → Sg → Rs) (x1 : Int32) (x3 : Int32) (t0 : Int32) (σ : Sg) : Rs := r30 x1 t0 (x3 + 1) σ
set_option maxRecDepth 100000 in
set_option maxHeartbeats 4000000 in
theorem k_X11_line_b58 {q : Mc} {E : En} {L : List Nat} {o : Int32 × Sg} (C : Cx q E L cX11_line 4 RX11 (some .int) (12)) (k : Nat) (hB : Bk L sh_AuntsPuzzleModel k) (r30 : Int32 → Int32 → Int32 → Sg → Rs) (hr30 : ∀ (x1 : Int32) (x2 : Int32) (x3 : Int32) (σ : Sg), r30 x1 x2 x3 σ = some o → Vx q E L 4 (some .int) o 30 [(0, .ref (E.2.1 (k))), (1, .int x1), (2, .int x2), (3, .int x3)] [] σ) (x1 : Int32) (x3 : Int32) (t0 : Int32) (σ : Sg) (hf : f_X11_line_b58 k r30 x1 x3 t0 σ = some o) : Vx q E L 4 (some .int) o 58 [(0, .ref (E.2.1 (k))), (1, .int x1), (3, .int x3)] [.int t0] σ := by
  unfold f_X11_line_b58 at hf
  refine v_istore_n (lv' := [(0, .ref (E.2.1 (k))), (1, .int x1), (3, .int x3), (2, .int t0)]) 58 C dX11_line_58 rfl (by decide) rfl rfl ?_
  refine v_iinc (v := x3 + 1) (lv' := [(0, .ref (E.2.1 (k))), (1, .int x1), (3, .int (x3 + 1)), (2, .int t0)]) 59 C dX11_line_59 rfl (by rfl) (by decide) rfl rfl ?_
  refine v_goto (tgt := 30) 62 C dX11_line_62 (by decide) ?_
  exact Vx.lv [0, 1, 3, 2] rfl (hr30 x1 t0 (x3 + 1) σ hf)
def f_X11_line_b30 (k : Nat)  : Nat → Int32 → Int32 → Int32 → Sg → Rs
  | 0, _, _, _, _ => none
  | n + 1, x1, x2, x3, σ => if (σ (k) 13) < x3 then (some (x2, σ)) else (p_call (f_X11_tableOf k x1 x3 σ) (fun v1 s2 => p_call (f_X11_tableOf k x1 x2 s2) (fun v3 s4 => if v3 ≤ v1 then (f_X11_line_b58 k (f_X11_line_b30 k n) x1 x3 x2 s4) else (f_X11_line_b58 k (f_X11_line_b30 k n) x1 x3 x3 s4))))
set_option maxRecDepth 100000 in
set_option maxHeartbeats 4000000 in
theorem k_X11_line_b30 {q : Mc} {E : En} {L : List Nat} {o : Int32 × Sg} (C : Cx q E L cX11_line 4 RX11 (some .int) (12)) (k : Nat) (hB : Bk L sh_AuntsPuzzleModel k) (n : Nat) : ∀ (x1 : Int32) (x2 : Int32) (x3 : Int32) (σ : Sg), f_X11_line_b30 k n x1 x2 x3 σ = some o → Vx q E L 4 (some .int) o 30 [(0, .ref (E.2.1 (k))), (1, .int x1), (2, .int x2), (3, .int x3)] [] σ := by
  induction n with
  | zero => intro x1 x2 x3 σ hf; cases (show (none : Rs) = some o from hf)
  | succ n ih =>
    intro x1 x2 x3 σ hf
    rw [f_X11_line_b30] at hf
    refine v_iload_n 30 C dX11_line_30 rfl rfl ?_
    refine v_aload_n 31 C dX11_line_31 rfl rfl ?_
    refine v_getI (dum := 0) 32 C lk_X11_95 (hB 0 _ rfl) (by decide) rfl dX11_line_32 ?_
    refine v_icmp_gt (tgt := 65) 35 C dX11_line_35 (by decide) hf (fun hf => ?_) (fun hf => ?_)
    · refine v_iload_n 65 C dX11_line_65 rfl rfl ?_
      exact v_iret 66 C rfl dX11_line_66 hf
    · refine v_aload_n 38 C dX11_line_38 rfl rfl ?_
      refine v_iload_n 39 C dX11_line_39 rfl rfl ?_
      refine v_iload_n 40 C dX11_line_40 rfl rfl ?_
      refine v_callV (st := []) 41 C [.int x1, .int x3] lm_X11_261 ly_X11_tableOf (hB 0 _ rfl) (by decide) dX11_line_41 rfl (by decide) rfl (Nat.le_of_ble_eq_true rfl) (fun o1 h1 => m_X11_tableOf k hB x1 x3 σ o1 h1) hf (fun v1 s2 hf => ?_)
      refine v_aload_n 44 C dX11_line_44 rfl rfl ?_
      refine v_iload_n 45 C dX11_line_45 rfl rfl ?_
      refine v_iload_n 46 C dX11_line_46 rfl rfl ?_
      refine v_callV (st := [.int v1]) 47 C [.int x1, .int x2] lm_X11_261 ly_X11_tableOf (hB 0 _ rfl) (by decide) dX11_line_47 rfl (by decide) rfl (Nat.le_of_ble_eq_true rfl) (fun o1 h1 => m_X11_tableOf k hB x1 x2 s2 o1 h1) hf (fun v3 s4 hf => ?_)
      refine v_icmp_ge (tgt := 57) 50 C dX11_line_50 (by decide) hf (fun hf => ?_) (fun hf => ?_)
      · refine v_iload_n 57 C dX11_line_57 rfl rfl ?_
        exact Vx.lv [0, 1, 3] rfl (k_X11_line_b58 C k hB (f_X11_line_b30 k n) ih x1 x3 x2 s4 hf)
      · refine v_iload_n 53 C dX11_line_53 rfl rfl ?_
        refine v_goto (tgt := 58) 54 C dX11_line_54 (by decide) ?_
        exact Vx.lv [0, 1, 3] rfl (k_X11_line_b58 C k hB (f_X11_line_b30 k n) ih x1 x3 x3 s4 hf)
def f_X11_line (k : Nat) (x1 : Int32) (σ : Sg) : Rs := p_call (f_X11_isIn x1 0 4 σ) (fun v1 s2 => if v1 = 0 then (p_call (f_X11_no k (-2) s2) (fun v3 s4 => some (v3, s4))) else (if (s2 (k) 13) = 0 then (some ((-9), s2)) else (f_X11_line_b30 k fu x1 1 2 s2)))
set_option maxRecDepth 100000 in
set_option maxHeartbeats 4000000 in
theorem k_X11_line_b0 {q : Mc} {E : En} {L : List Nat} {o : Int32 × Sg} (C : Cx q E L cX11_line 4 RX11 (some .int) (12)) (k : Nat) (hB : Bk L sh_AuntsPuzzleModel k) (x1 : Int32) (σ : Sg) (hf : f_X11_line k x1 σ = some o) : Vx q E L 4 (some .int) o 0 [(0, .ref (E.2.1 (k))), (1, .int x1)] [] σ := by
  unfold f_X11_line at hf
  refine v_iload_n 0 C dX11_line_0 rfl rfl ?_
  refine v_iconst (v := 0) 1 C dX11_line_1 (by decide) ?_
  refine v_iconst (v := 4) 2 C dX11_line_2 (by decide) ?_
  refine v_callS (st := []) 3 C [.int x1, .int 0, .int 4] lm_X11_124 lz_X11_isIn dX11_line_3 rfl (by decide) rfl (Nat.le_of_ble_eq_true rfl) (fun o1 h1 => m_X11_isIn   x1 0 4 σ o1 h1) hf (fun v1 s2 hf => ?_)
  refine v_if_ne (tgt := 16) 6 C dX11_line_6 (by decide) hf (fun hf => ?_) (fun hf => ?_)
  · refine v_aload_n 16 C dX11_line_16 rfl rfl ?_
    refine v_getI (dum := 0) 17 C lk_X11_95 (hB 0 _ rfl) (by decide) rfl dX11_line_17 ?_
    refine v_if_ne (tgt := 26) 20 C dX11_line_20 (by decide) hf (fun hf => ?_) (fun hf => ?_)
    · refine v_iconst (v := 1) 26 C dX11_line_26 (by decide) ?_
      refine v_istore_n (lv' := [(0, .ref (E.2.1 (k))), (1, .int x1), (2, .int 1)]) 27 C dX11_line_27 rfl (by decide) rfl rfl ?_
      refine v_iconst (v := 2) 28 C dX11_line_28 (by decide) ?_
      refine v_istore_n (lv' := [(0, .ref (E.2.1 (k))), (1, .int x1), (2, .int 1), (3, .int 2)]) 29 C dX11_line_29 rfl (by decide) rfl rfl ?_
      exact Vx.lv [0, 1, 2, 3] rfl (k_X11_line_b30 C k hB fu x1 1 2 s2 hf)
    · refine v_bipush (v := (-9)) 23 C dX11_line_23 (by decide) ?_
      exact v_iret 25 C rfl dX11_line_25 hf
  · refine v_aload_n 9 C dX11_line_9 rfl rfl ?_
    refine v_bipush (v := (-2)) 10 C dX11_line_10 (by decide) ?_
    refine v_callV (st := []) 12 C [.int (-2)] lm_X11_112 ly_X11_no (hB 0 _ rfl) (by decide) dX11_line_12 rfl (by decide) rfl (Nat.le_of_ble_eq_true rfl) (fun o1 h1 => m_X11_no k hB (-2) s2 o1 h1) hf (fun v3 s4 hf => ?_)
    exact v_iret 15 C rfl dX11_line_15 hf
theorem m_X11_line {l : Launch} {E : En} {L : List Nat} (k : Nat) (hB : Bk L sh_AuntsPuzzleModel k) (x1 : Int32) (σ : Sg) (o : Int32 × Sg) (hf : f_X11_line k x1 σ = some o) : Mi l yX11_line cX11_line 4 (some .int) (12) E L [.ref (E.2.1 (k)), .int x1] σ o :=
  Mi.of RX11 rfl (by decide) (Nat.le_of_ble_eq_true rfl) (fun q hq C => by subst hq; exact k_X11_line_b0 C k hB x1 σ hf)
