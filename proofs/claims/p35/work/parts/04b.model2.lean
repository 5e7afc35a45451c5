/-! printed by wip/whole/gen/gen.py: methods as pure functions, and that the machine does them -/
def f_X11_isAtRim_b40 (k : Nat) (r3 : Int32 → Int32 → Int32 → Int32 → Sg → Rs) (x1 : Int32) (x2 : Int32) (x3 : Int32) (x4 : Int32) (t0 : Int32) (t1 : Int32) (σ : Sg) : Rs := if t0 = t1 then (r3 x1 x2 x3 (x4 + 1) σ) else (some (0, σ))
set_option maxRecDepth 100000 in
set_option maxHeartbeats 4000000 in
theorem k_X11_isAtRim_b40 {q : Mc} {E : En} {L : List Nat} {o : Int32 × Sg} (C : Cx q E L cX11_isAtRim 5 RX11 (some .boolean) (5)) (k : Nat) (hB : Bk L sh_AuntsPuzzleModel k) (r3 : Int32 → Int32 → Int32 → Int32 → Sg → Rs) (hr3 : ∀ (x1 : Int32) (x2 : Int32) (x3 : Int32) (x4 : Int32) (σ : Sg), r3 x1 x2 x3 x4 σ = some o → Vx q E L 5 (some .boolean) o 3 [(0, .ref (E.2.1 (k))), (1, .int x1), (2, .int x2), (3, .int x3), (4, .int x4)] [] σ) (x1 : Int32) (x2 : Int32) (x3 : Int32) (x4 : Int32) (t0 : Int32) (t1 : Int32) (σ : Sg) (hf : f_X11_isAtRim_b40 k r3 x1 x2 x3 x4 t0 t1 σ = some o) : Vx q E L 5 (some .boolean) o 40 [(0, .ref (E.2.1 (k))), (1, .int x1), (2, .int x2), (3, .int x3), (4, .int x4)] [.int t1, .int t0] σ := by
  unfold f_X11_isAtRim_b40 at hf
  refine v_icmp_eq (tgt := 45) 40 C dX11_isAtRim_40 (by decide) hf (fun hf => ?_) (fun hf => ?_)
  · refine v_iinc (v := x4 + 1) (lv' := [(0, .ref (E.2.1 (k))), (1, .int x1), (2, .int x2), (3, .int x3), (4, .int (x4 + 1))]) 45 C dX11_isAtRim_45 rfl (by rfl) (by decide) rfl rfl ?_
    refine v_goto (tgt := 3) 48 C dX11_isAtRim_48 (by decide) ?_
    exact Vx.lv [0, 1, 2, 3, 4] rfl (hr3 x1 x2 x3 (x4 + 1) σ hf)
  · refine v_iconst (v := 0) 43 C dX11_isAtRim_43 (by decide) ?_
    exact v_zretN 44 C rfl dX11_isAtRim_44 (by decide) hf
def f_X11_isAtRim_b25 (k : Nat) (r3 : Int32 → Int32 → Int32 → Int32 → Sg → Rs) (x1 : Int32) (x2 : Int32) (x3 : Int32) (x4 : Int32) (t0 : Int32) (σ : Sg) : Rs := p_call (f_X11_beside k x3 x4 σ) (fun v1 s2 => if 0 ≤ v1 then (f_X11_isAtRim_b40 k r3 x1 x2 x3 x4 t0 0 s2) else (f_X11_isAtRim_b40 k r3 x1 x2 x3 x4 t0 1 s2))
set_option maxRecDepth 100000 in
set_option maxHeartbeats 4000000 in
theorem k_X11_isAtRim_b25 {q : Mc} {E : En} {L : List Nat} {o : Int32 × Sg} (C : Cx q E L cX11_isAtRim 5 RX11 (some .boolean) (5)) (k : Nat) (hB : Bk L sh_AuntsPuzzleModel k) (r3 : Int32 → Int32 → Int32 → Int32 → Sg → Rs) (hr3 : ∀ (x1 : Int32) (x2 : Int32) (x3 : Int32) (x4 : Int32) (σ : Sg), r3 x1 x2 x3 x4 σ = some o → Vx q E L 5 (some .boolean) o 3 [(0, .ref (E.2.1 (k))), (1, .int x1), (2, .int x2), (3, .int x3), (4, .int x4)] [] σ) (x1 : Int32) (x2 : Int32) (x3 : Int32) (x4 : Int32) (t0 : Int32) (σ : Sg) (hf : f_X11_isAtRim_b25 k r3 x1 x2 x3 x4 t0 σ = some o) : Vx q E L 5 (some .boolean) o 25 [(0, .ref (E.2.1 (k))), (1, .int x1), (2, .int x2), (3, .int x3), (4, .int x4)] [.int t0] σ := by
  unfold f_X11_isAtRim_b25 at hf
  refine v_aload_n 25 C dX11_isAtRim_25 rfl rfl ?_
  refine v_iload_n 26 C dX11_isAtRim_26 rfl rfl ?_
  refine v_iload 27 C dX11_isAtRim_27 rfl ?_
  refine v_callV (st := [.int t0]) 29 C [.int x3, .int x4] lm_X11_98 ly_X11_beside (hB 0 _ rfl) (by decide) dX11_isAtRim_29 rfl (by decide) rfl (Nat.le_of_ble_eq_true rfl) (fun o1 h1 => m_X11_beside k hB x3 x4 σ o1 h1) hf (fun v1 s2 hf => ?_)
  refine v_if_ge (tgt := 39) 32 C dX11_isAtRim_32 (by decide) hf (fun hf => ?_) (fun hf => ?_)
  · refine v_iconst (v := 0) 39 C dX11_isAtRim_39 (by decide) ?_
    exact Vx.lv [0, 1, 2, 3, 4] rfl (k_X11_isAtRim_b40 C k hB r3 hr3 x1 x2 x3 x4 t0 0 s2 hf)
  · refine v_iconst (v := 1) 35 C dX11_isAtRim_35 (by decide) ?_
    refine v_goto (tgt := 40) 36 C dX11_isAtRim_36 (by decide) ?_
    exact Vx.lv [0, 1, 2, 3, 4] rfl (k_X11_isAtRim_b40 C k hB r3 hr3 x1 x2 x3 x4 t0 1 s2 hf)
def f_X11_isAtRim_b3 (k : Nat)  : Nat → Int32 → Int32 → Int32 → Int32 → Sg → Rs
  | 0, _, _, _, _, _ => none
  | n + 1, x1, x2, x3, x4, σ => if 4 ≤ x4 then (some (1, σ)) else (p_call (f_X11_turned k x1 x2 x4 σ) (fun v1 s2 => if v1 = 0 then (f_X11_isAtRim_b25 k (f_X11_isAtRim_b3 k n) x1 x2 x3 x4 1 s2) else (f_X11_isAtRim_b25 k (f_X11_isAtRim_b3 k n) x1 x2 x3 x4 0 s2)))
set_option maxRecDepth 100000 in
set_option maxHeartbeats 4000000 in
theorem k_X11_isAtRim_b3 {q : Mc} {E : En} {L : List Nat} {o : Int32 × Sg} (C : Cx q E L cX11_isAtRim 5 RX11 (some .boolean) (5)) (k : Nat) (hB : Bk L sh_AuntsPuzzleModel k) (n : Nat) : ∀ (x1 : Int32) (x2 : Int32) (x3 : Int32) (x4 : Int32) (σ : Sg), f_X11_isAtRim_b3 k n x1 x2 x3 x4 σ = some o → Vx q E L 5 (some .boolean) o 3 [(0, .ref (E.2.1 (k))), (1, .int x1), (2, .int x2), (3, .int x3), (4, .int x4)] [] σ := by
  induction n with
  | zero => intro x1 x2 x3 x4 σ hf; cases (show (none : Rs) = some o from hf)
  | succ n ih =>
    intro x1 x2 x3 x4 σ hf
    rw [f_X11_isAtRim_b3] at hf
    refine v_iload 3 C dX11_isAtRim_3 rfl ?_
    refine v_iconst (v := 4) 5 C dX11_isAtRim_5 (by decide) ?_
    refine v_icmp_ge (tgt := 51) 6 C dX11_isAtRim_6 (by decide) hf (fun hf => ?_) (fun hf => ?_)
    · refine v_iconst (v := 1) 51 C dX11_isAtRim_51 (by decide) ?_
      exact v_zretN 52 C rfl dX11_isAtRim_52 (by decide) hf
    · refine v_aload_n 9 C dX11_isAtRim_9 rfl rfl ?_
      refine v_iload_n 10 C dX11_isAtRim_10 rfl rfl ?_
      refine v_iload_n 11 C dX11_isAtRim_11 rfl rfl ?_
      refine v_iload 12 C dX11_isAtRim_12 rfl ?_
      refine v_callV (st := []) 14 C [.int x1, .int x2, .int x4] lm_X11_175 ly_X11_turned (hB 0 _ rfl) (by decide) dX11_isAtRim_14 rfl (by decide) rfl (Nat.le_of_ble_eq_true rfl) (fun o1 h1 => m_X11_turned k hB x1 x2 x4 σ o1 h1) hf (fun v1 s2 hf => ?_)
      refine v_if_ne (tgt := 24) 17 C dX11_isAtRim_17 (by decide) hf (fun hf => ?_) (fun hf => ?_)
      · refine v_iconst (v := 0) 24 C dX11_isAtRim_24 (by decide) ?_
        exact Vx.lv [0, 1, 2, 3, 4] rfl (k_X11_isAtRim_b25 C k hB (f_X11_isAtRim_b3 k n) ih x1 x2 x3 x4 0 s2 hf)
      · refine v_iconst (v := 1) 20 C dX11_isAtRim_20 (by decide) ?_
        refine v_goto (tgt := 25) 21 C dX11_isAtRim_21 (by decide) ?_
        exact Vx.lv [0, 1, 2, 3, 4] rfl (k_X11_isAtRim_b25 C k hB (f_X11_isAtRim_b3 k n) ih x1 x2 x3 x4 1 s2 hf)
def f_X11_isAtRim (k : Nat) (x1 : Int32) (x2 : Int32) (x3 : Int32) (σ : Sg) : Rs := f_X11_isAtRim_b3 k fu x1 x2 x3 0 σ
set_option maxRecDepth 100000 in
set_option maxHeartbeats 4000000 in
theorem k_X11_isAtRim_b0 {q : Mc} {E : En} {L : List Nat} {o : Int32 × Sg} (C : Cx q E L cX11_isAtRim 5 RX11 (some .boolean) (5)) (k : Nat) (hB : Bk L sh_AuntsPuzzleModel k) (x1 : Int32) (x2 : Int32) (x3 : Int32) (σ : Sg) (hf : f_X11_isAtRim k x1 x2 x3 σ = some o) : Vx q E L 5 (some .boolean) o 0 [(0, .ref (E.2.1 (k))), (1, .int x1), (2, .int x2), (3, .int x3)] [] σ := by
  unfold f_X11_isAtRim at hf
  refine v_iconst (v := 0) 0 C dX11_isAtRim_0 (by decide) ?_
  refine v_istore (lv' := [(0, .ref (E.2.1 (k))), (1, .int x1), (2, .int x2), (3, .int x3), (4, .int 0)]) 1 C dX11_isAtRim_1 (by decide) rfl rfl ?_
  exact Vx.lv [0, 1, 2, 3, 4] rfl (k_X11_isAtRim_b3 C k hB fu x1 x2 x3 0 σ hf)
theorem m_X11_isAtRim {l : Launch} {E : En} {L : List Nat} (k : Nat) (hB : Bk L sh_AuntsPuzzleModel k) (x1 : Int32) (x2 : Int32) (x3 : Int32) (σ : Sg) (o : Int32 × Sg) (hf : f_X11_isAtRim k x1 x2 x3 σ = some o) : Mi l yX11_isAtRim cX11_isAtRim 5 (some .boolean) (5) E L [.ref (E.2.1 (k)), .int x1, .int x2, .int x3] σ o :=
  Mi.of RX11 rfl (by decide) (Nat.le_of_ble_eq_true rfl) (fun q hq C => by subst hq; exact k_X11_isAtRim_b0 C k hB x1 x2 x3 σ hf)
def f_X11_doesFit_b94 (k : Nat) (r15 : Int32 → Int32 → Int32 → Int32 → Sg → Rs) (x1 : Int32) (x2 : Int32) (x3 : Int32) (x4 : Int32) (σ : Sg) : Rs := r15 x1 x2 x3 (x4 + 1) σ
set_option maxRecDepth 100000 in
set_option maxHeartbeats 4000000 in
theorem k_X11_doesFit_b94 {q : Mc} {E : En} {L : List Nat} {o : Int32 × Sg} (C : Cx q E L cX11_doesFit 6 RX11 (some .boolean) (6)) (k : Nat) (hB : Bk L sh_AuntsPuzzleModel k) (r15 : Int32 → Int32 → Int32 → Int32 → Sg → Rs) (hr15 : ∀ (x1 : Int32) (x2 : Int32) (x3 : Int32) (x4 : Int32) (σ : Sg), r15 x1 x2 x3 x4 σ = some o → Vx q E L 6 (some .boolean) o 15 [(0, .ref (E.2.1 (k))), (1, .int x1), (2, .int x2), (3, .int x3), (4, .int x4)] [] σ) (x1 : Int32) (x2 : Int32) (x3 : Int32) (x4 : Int32) (σ : Sg) (hf : f_X11_doesFit_b94 k r15 x1 x2 x3 x4 σ = some o) : Vx q E L 6 (some .boolean) o 94 [(0, .ref (E.2.1 (k))), (1, .int x1), (2, .int x2), (3, .int x3), (4, .int x4)] [] σ := by
  unfold f_X11_doesFit_b94 at hf
  refine v_iinc (v := x4 + 1) (lv' := [(0, .ref (E.2.1 (k))), (1, .int x1), (2, .int x2), (3, .int x3), (4, .int (x4 + 1))]) 94 C dX11_doesFit_94 rfl (by rfl) (by decide) rfl rfl ?_
  refine v_goto (tgt := 15) 97 C dX11_doesFit_97 (by decide) ?_
  exact Vx.lv [0, 1, 2, 3, 4] rfl (hr15 x1 x2 x3 (x4 + 1) σ hf)
def f_X11_doesFit_b15 (k : Nat)  : Nat → Int32 → Int32 → Int32 → Int32 → Sg → Rs
  | 0, _, _, _, _, _ => none
  | n + 1, x1, x2, x3, x4, σ => if 4 ≤ x4 then (some (1, σ)) else (p_call (f_X11_beside k x3 x4 σ) (fun v1 s2 => if v1 < 0 then (f_X11_doesFit_b94 k (f_X11_doesFit_b15 k n) x1 x2 x3 x4 s2) else (p_rd s2 (k + 5) 16 v1 (fun v3 => if v3 < 0 then (f_X11_doesFit_b94 k (f_X11_doesFit_b15 k n) x1 x2 x3 x4 s2) else (p_rd s2 (k + 5) 16 v1 (fun v4 => if v4 = x1 then (f_X11_doesFit_b94 k (f_X11_doesFit_b15 k n) x1 x2 x3 x4 s2) else (p_call (f_X11_turned k x1 x2 x4 s2) (fun v5 s6 => p_rd s6 (k + 5) 16 v1 (fun v7 => p_rd s6 (k + 6) 16 v1 (fun v8 => p_call (f_X11_turned k v7 v8 ((x4 + 2) - (x4 + 2) / 4 * 4) s6) (fun v9 s10 => if (v5 + v9) = 0 then (f_X11_doesFit_b94 k (f_X11_doesFit_b15 k n) x1 x2 x3 x4 s10) else (some (0, s10)))))))))))))
set_option maxRecDepth 100000 in
set_option maxHeartbeats 4000000 in
theorem k_X11_doesFit_b15 {q : Mc} {E : En} {L : List Nat} {o : Int32 × Sg} (C : Cx q E L cX11_doesFit 6 RX11 (some .boolean) (6)) (k : Nat) (hB : Bk L sh_AuntsPuzzleModel k) (n : Nat) : ∀ (x1 : Int32) (x2 : Int32) (x3 : Int32) (x4 : Int32) (σ : Sg), f_X11_doesFit_b15 k n x1 x2 x3 x4 σ = some o → Vx q E L 6 (some .boolean) o 15 [(0, .ref (E.2.1 (k))), (1, .int x1), (2, .int x2), (3, .int x3), (4, .int x4)] [] σ := by
  induction n with
  | zero => intro x1 x2 x3 x4 σ hf; cases (show (none : Rs) = some o from hf)
  | succ n ih =>
    intro x1 x2 x3 x4 σ hf
    rw [f_X11_doesFit_b15] at hf
    refine v_iload 15 C dX11_doesFit_15 rfl ?_
    refine v_iconst (v := 4) 17 C dX11_doesFit_17 (by decide) ?_
    refine v_icmp_ge (tgt := 100) 18 C dX11_doesFit_18 (by decide) hf (fun hf => ?_) (fun hf => ?_)
    · refine v_iconst (v := 1) 100 C dX11_doesFit_100 (by decide) ?_
      exact v_zretN 101 C rfl dX11_doesFit_101 (by decide) hf
    · refine v_aload_n 21 C dX11_doesFit_21 rfl rfl ?_
      refine v_iload_n 22 C dX11_doesFit_22 rfl rfl ?_
      refine v_iload 23 C dX11_doesFit_23 rfl ?_
      refine v_callV (st := []) 25 C [.int x3, .int x4] lm_X11_98 ly_X11_beside (hB 0 _ rfl) (by decide) dX11_doesFit_25 rfl (by decide) rfl (Nat.le_of_ble_eq_true rfl) (fun o1 h1 => m_X11_beside k hB x3 x4 σ o1 h1) hf (fun v1 s2 hf => ?_)
      refine v_istore (lv' := [(0, .ref (E.2.1 (k))), (1, .int x1), (2, .int x2), (3, .int x3), (4, .int x4), (5, .int v1)]) 28 C dX11_doesFit_28 (by decide) rfl rfl ?_
      refine v_iload 30 C dX11_doesFit_30 rfl ?_
      refine v_if_lt (tgt := 94) 32 C dX11_doesFit_32 (by decide) hf (fun hf => ?_) (fun hf => ?_)
      · exact Vx.lv [0, 1, 2, 3, 4] rfl (k_X11_doesFit_b94 C k hB (f_X11_doesFit_b15 k n) ih x1 x2 x3 x4 s2 hf)
      · refine v_aload_n 35 C dX11_doesFit_35 rfl rfl ?_
        refine v_getR 36 C lk_X11_22 (hB 0 _ rfl) (by decide) rfl dX11_doesFit_36 ?_
        refine v_iload 39 C dX11_doesFit_39 rfl ?_
        refine v_iald 41 C (hB 5 _ rfl) dX11_doesFit_41 hf (fun v3 hf => ?_)
        refine v_if_lt (tgt := 94) 42 C dX11_doesFit_42 (by decide) hf (fun hf => ?_) (fun hf => ?_)
        · exact Vx.lv [0, 1, 2, 3, 4] rfl (k_X11_doesFit_b94 C k hB (f_X11_doesFit_b15 k n) ih x1 x2 x3 x4 s2 hf)
        · refine v_aload_n 45 C dX11_doesFit_45 rfl rfl ?_
          refine v_getR 46 C lk_X11_22 (hB 0 _ rfl) (by decide) rfl dX11_doesFit_46 ?_
          refine v_iload 49 C dX11_doesFit_49 rfl ?_
          refine v_iald 51 C (hB 5 _ rfl) dX11_doesFit_51 hf (fun v4 hf => ?_)
          refine v_iload_n 52 C dX11_doesFit_52 rfl rfl ?_
          refine v_icmp_eq (tgt := 94) 53 C dX11_doesFit_53 (by decide) hf (fun hf => ?_) (fun hf => ?_)
          · exact Vx.lv [0, 1, 2, 3, 4] rfl (k_X11_doesFit_b94 C k hB (f_X11_doesFit_b15 k n) ih x1 x2 x3 x4 s2 hf)
          · refine v_aload_n 56 C dX11_doesFit_56 rfl rfl ?_
            refine v_iload_n 57 C dX11_doesFit_57 rfl rfl ?_
            refine v_iload_n 58 C dX11_doesFit_58 rfl rfl ?_
            refine v_iload 59 C dX11_doesFit_59 rfl ?_
            refine v_callV (st := []) 61 C [.int x1, .int x2, .int x4] lm_X11_175 ly_X11_turned (hB 0 _ rfl) (by decide) dX11_doesFit_61 rfl (by decide) rfl (Nat.le_of_ble_eq_true rfl) (fun o1 h1 => m_X11_turned k hB x1 x2 x4 s2 o1 h1) hf (fun v5 s6 hf => ?_)
            refine v_aload_n 64 C dX11_doesFit_64 rfl rfl ?_
            refine v_aload_n 65 C dX11_doesFit_65 rfl rfl ?_
            refine v_getR 66 C lk_X11_22 (hB 0 _ rfl) (by decide) rfl dX11_doesFit_66 ?_
            refine v_iload 69 C dX11_doesFit_69 rfl ?_
            refine v_iald 71 C (hB 5 _ rfl) dX11_doesFit_71 hf (fun v7 hf => ?_)
            refine v_aload_n 72 C dX11_doesFit_72 rfl rfl ?_
            refine v_getR 73 C lk_X11_25 (hB 0 _ rfl) (by decide) rfl dX11_doesFit_73 ?_
            refine v_iload 76 C dX11_doesFit_76 rfl ?_
            refine v_iald 78 C (hB 6 _ rfl) dX11_doesFit_78 hf (fun v8 hf => ?_)
            refine v_iload 79 C dX11_doesFit_79 rfl ?_
            refine v_iconst (v := 2) 81 C dX11_doesFit_81 (by decide) ?_
            refine v_iadd 82 C dX11_doesFit_82 ?_
            refine v_iconst (v := 4) 83 C dX11_doesFit_83 (by decide) ?_
            refine v_irem_c 84 C dX11_doesFit_84 (by decide) ?_
            refine v_callV (st := [.int v5]) 85 C [.int v7, .int v8, .int ((x4 + 2) - (x4 + 2) / 4 * 4)] lm_X11_175 ly_X11_turned (hB 0 _ rfl) (by decide) dX11_doesFit_85 rfl (by decide) rfl (Nat.le_of_ble_eq_true rfl) (fun o1 h1 => m_X11_turned k hB v7 v8 ((x4 + 2) - (x4 + 2) / 4 * 4) s6 o1 h1) hf (fun v9 s10 hf => ?_)
            refine v_iadd 88 C dX11_doesFit_88 ?_
            refine v_if_eq (tgt := 94) 89 C dX11_doesFit_89 (by decide) hf (fun hf => ?_) (fun hf => ?_)
            · exact Vx.lv [0, 1, 2, 3, 4] rfl (k_X11_doesFit_b94 C k hB (f_X11_doesFit_b15 k n) ih x1 x2 x3 x4 s10 hf)
            · refine v_iconst (v := 0) 92 C dX11_doesFit_92 (by decide) ?_
              exact v_zretN 93 C rfl dX11_doesFit_93 (by decide) hf
def f_X11_doesFit (k : Nat) (x1 : Int32) (x2 : Int32) (x3 : Int32) (σ : Sg) : Rs := p_call (f_X11_isAtRim k x1 x2 x3 σ) (fun v1 s2 => if v1 = 0 then (some (0, s2)) else (f_X11_doesFit_b15 k fu x1 x2 x3 0 s2))
set_option maxRecDepth 100000 in
set_option maxHeartbeats 4000000 in
theorem k_X11_doesFit_b0 {q : Mc} {E : En} {L : List Nat} {o : Int32 × Sg} (C : Cx q E L cX11_doesFit 6 RX11 (some .boolean) (6)) (k : Nat) (hB : Bk L sh_AuntsPuzzleModel k) (x1 : Int32) (x2 : Int32) (x3 : Int32) (σ : Sg) (hf : f_X11_doesFit k x1 x2 x3 σ = some o) : Vx q E L 6 (some .boolean) o 0 [(0, .ref (E.2.1 (k))), (1, .int x1), (2, .int x2), (3, .int x3)] [] σ := by
  unfold f_X11_doesFit at hf
  refine v_aload_n 0 C dX11_doesFit_0 rfl rfl ?_
  refine v_iload_n 1 C dX11_doesFit_1 rfl rfl ?_
  refine v_iload_n 2 C dX11_doesFit_2 rfl rfl ?_
  refine v_iload_n 3 C dX11_doesFit_3 rfl rfl ?_
  refine v_callV (st := []) 4 C [.int x1, .int x2, .int x3] lm_X11_178 ly_X11_isAtRim (hB 0 _ rfl) (by decide) dX11_doesFit_4 rfl (by decide) rfl (Nat.le_of_ble_eq_true rfl) (fun o1 h1 => m_X11_isAtRim k hB x1 x2 x3 σ o1 h1) hf (fun v1 s2 hf => ?_)
  refine v_if_ne (tgt := 12) 7 C dX11_doesFit_7 (by decide) hf (fun hf => ?_) (fun hf => ?_)
  · refine v_iconst (v := 0) 12 C dX11_doesFit_12 (by decide) ?_
    refine v_istore (lv' := [(0, .ref (E.2.1 (k))), (1, .int x1), (2, .int x2), (3, .int x3), (4, .int 0)]) 13 C dX11_doesFit_13 (by decide) rfl rfl ?_
    exact Vx.lv [0, 1, 2, 3, 4] rfl (k_X11_doesFit_b15 C k hB fu x1 x2 x3 0 s2 hf)
  · refine v_iconst (v := 0) 10 C dX11_doesFit_10 (by decide) ?_
    exact v_zretN 11 C rfl dX11_doesFit_11 (by decide) hf
theorem m_X11_doesFit {l : Launch} {E : En} {L : List Nat} (k : Nat) (hB : Bk L sh_AuntsPuzzleModel k) (x1 : Int32) (x2 : Int32) (x3 : Int32) (σ : Sg) (o : Int32 × Sg) (hf : f_X11_doesFit k x1 x2 x3 σ = some o) : Mi l yX11_doesFit cX11_doesFit 6 (some .boolean) (6) E L [.ref (E.2.1 (k)), .int x1, .int x2, .int x3] σ o :=
  Mi.of RX11 rfl (by decide) (Nat.le_of_ble_eq_true rfl) (fun q hq C => by subst hq; exact k_X11_doesFit_b0 C k hB x1 x2 x3 σ hf)
def f_X11_kindAt (k : Nat) (x1 : Int32) (x2 : Int32) (x3 : Int32) (σ : Sg) : Rs := p_call (f_X11_doesFit k x1 x2 x3 σ) (fun v1 s2 => if v1 = 0 then (p_call (f_X11_isAtRim k x1 x2 x3 s2) (fun v3 s4 => if v3 = 0 then (some (3, s4)) else (some (4, s4)))) else (if x1 = x3 then (if x2 = 0 then (some (1, s2)) else (some (2, s2))) else (some (2, s2))))
set_option maxRecDepth 100000 in
set_option maxHeartbeats 4000000 in
theorem k_X11_kindAt_b0 {q : Mc} {E : En} {L : List Nat} {o : Int32 × Sg} (C : Cx q E L cX11_kindAt 4 RX11 (some .int) (7)) (k : Nat) (hB : Bk L sh_AuntsPuzzleModel k) (x1 : Int32) (x2 : Int32) (x3 : Int32) (σ : Sg) (hf : f_X11_kindAt k x1 x2 x3 σ = some o) : Vx q E L 4 (some .int) o 0 [(0, .ref (E.2.1 (k))), (1, .int x1), (2, .int x2), (3, .int x3)] [] σ := by
  unfold f_X11_kindAt at hf
  refine v_aload_n 0 C dX11_kindAt_0 rfl rfl ?_
  refine v_iload_n 1 C dX11_kindAt_1 rfl rfl ?_
  refine v_iload_n 2 C dX11_kindAt_2 rfl rfl ?_
  refine v_iload_n 3 C dX11_kindAt_3 rfl rfl ?_
  refine v_callV (st := []) 4 C [.int x1, .int x2, .int x3] lm_X11_181 ly_X11_doesFit (hB 0 _ rfl) (by decide) dX11_kindAt_4 rfl (by decide) rfl (Nat.le_of_ble_eq_true rfl) (fun o1 h1 => m_X11_doesFit k hB x1 x2 x3 σ o1 h1) hf (fun v1 s2 hf => ?_)
  refine v_if_eq (tgt := 25) 7 C dX11_kindAt_7 (by decide) hf (fun hf => ?_) (fun hf => ?_)
  · refine v_aload_n 25 C dX11_kindAt_25 rfl rfl ?_
    refine v_iload_n 26 C dX11_kindAt_26 rfl rfl ?_
    refine v_iload_n 27 C dX11_kindAt_27 rfl rfl ?_
    refine v_iload_n 28 C dX11_kindAt_28 rfl rfl ?_
    refine v_callV (st := []) 29 C [.int x1, .int x2, .int x3] lm_X11_178 ly_X11_isAtRim (hB 0 _ rfl) (by decide) dX11_kindAt_29 rfl (by decide) rfl (Nat.le_of_ble_eq_true rfl) (fun o1 h1 => m_X11_isAtRim k hB x1 x2 x3 s2 o1 h1) hf (fun v3 s4 hf => ?_)
    refine v_if_eq (tgt := 39) 32 C dX11_kindAt_32 (by decide) hf (fun hf => ?_) (fun hf => ?_)
    · refine v_iconst (v := 3) 39 C dX11_kindAt_39 (by decide) ?_
      exact v_iret 40 C rfl dX11_kindAt_40 hf
    · refine v_iconst (v := 4) 35 C dX11_kindAt_35 (by decide) ?_
      refine v_goto (tgt := 40) 36 C dX11_kindAt_36 (by decide) ?_
      exact v_iret 40 C rfl dX11_kindAt_40 hf
  · refine v_iload_n 10 C dX11_kindAt_10 rfl rfl ?_
    refine v_iload_n 11 C dX11_kindAt_11 rfl rfl ?_
    refine v_icmp_ne (tgt := 23) 12 C dX11_kindAt_12 (by decide) hf (fun hf => ?_) (fun hf => ?_)
    · refine v_iconst (v := 2) 23 C dX11_kindAt_23 (by decide) ?_
      exact v_iret 24 C rfl dX11_kindAt_24 hf
    · refine v_iload_n 15 C dX11_kindAt_15 rfl rfl ?_
      refine v_if_ne (tgt := 23) 16 C dX11_kindAt_16 (by decide) hf (fun hf => ?_) (fun hf => ?_)
      · refine v_iconst (v := 2) 23 C dX11_kindAt_23 (by decide) ?_
        exact v_iret 24 C rfl dX11_kindAt_24 hf
      · refine v_iconst (v := 1) 19 C dX11_kindAt_19 (by decide) ?_
        refine v_goto (tgt := 24) 20 C dX11_kindAt_20 (by decide) ?_
        exact v_iret 24 C rfl dX11_kindAt_24 hf
theorem m_X11_kindAt {l : Launch} {E : En} {L : List Nat} (k : Nat) (hB : Bk L sh_AuntsPuzzleModel k) (x1 : Int32) (x2 : Int32) (x3 : Int32) (σ : Sg) (o : Int32 × Sg) (hf : f_X11_kindAt k x1 x2 x3 σ = some o) : Mi l yX11_kindAt cX11_kindAt 4 (some .int) (7) E L [.ref (E.2.1 (k)), .int x1, .int x2, .int x3] σ o :=
  Mi.of RX11 rfl (by decide) (Nat.le_of_ble_eq_true rfl) (fun q hq C => by subst hq; exact k_X11_kindAt_b0 C k hB x1 x2 x3 σ hf)
def f_X11_halfUp (x0 : Int32) (σ : Sg) : Rs := some ((x0 + 1) / 2, σ)
set_option maxRecDepth 100000 in
set_option maxHeartbeats 4000000 in
theorem k_X11_halfUp_b0 {q : Mc} {E : En} {L : List Nat} {o : Int32 × Sg} (C : Cx q E L cX11_halfUp 1 RX11 (some .int) (1)) (x0 : Int32) (σ : Sg) (hf : f_X11_halfUp x0 σ = some o) : Vx q E L 1 (some .int) o 0 [(0, .int x0)] [] σ := by
  unfold f_X11_halfUp at hf
  refine v_iload_n 0 C dX11_halfUp_0 rfl rfl ?_
  refine v_iconst (v := 1) 1 C dX11_halfUp_1 (by decide) ?_
  refine v_iadd 2 C dX11_halfUp_2 ?_
  refine v_iconst (v := 2) 3 C dX11_halfUp_3 (by decide) ?_
  refine v_idiv_c 4 C dX11_halfUp_4 (by decide) ?_
  exact v_iret 5 C rfl dX11_halfUp_5 hf
theorem m_X11_halfUp {l : Launch} {E : En} {L : List Nat} (x0 : Int32) (σ : Sg) (o : Int32 × Sg) (hf : f_X11_halfUp x0 σ = some o) : Mi l yX11_halfUp cX11_halfUp 1 (some .int) (1) E L [.int x0] σ o :=
  Mi.of RX11 rfl (by decide) (Nat.le_of_ble_eq_true rfl) (fun q hq C => by subst hq; exact k_X11_halfUp_b0 C   x0 σ hf)
def f_X11_secondsOf_b155 (k : Nat) (x2 : Int32) (x3 : Int32) (x4 : Int32) (x5 : Int32) (σ : Sg) : Rs := p_call (f_X11_kindAt k x2 x3 x4 σ) (fun v1 s2 => if v1 = 2 then (some (2 * x5, s2)) else (some (x5, s2)))
set_option maxRecDepth 100000 in
set_option maxHeartbeats 4000000 in
theorem k_X11_secondsOf_b155 {q : Mc} {E : En} {L : List Nat} {o : Int32 × Sg} (C : Cx q E L cX11_secondsOf 6 RX11 (some .int) (8)) (k : Nat) (hB : Bk L sh_AuntsPuzzleModel k) (x2 : Int32) (x3 : Int32) (x4 : Int32) (x5 : Int32) (σ : Sg) (hf : f_X11_secondsOf_b155 k x2 x3 x4 x5 σ = some o) : Vx q E L 6 (some .int) o 155 [(0, .ref (E.2.1 (k))), (2, .int x2), (3, .int x3), (4, .int x4), (5, .int x5)] [] σ := by
  unfold f_X11_secondsOf_b155 at hf
  refine v_aload_n 155 C dX11_secondsOf_155 rfl rfl ?_
  refine v_iload_n 156 C dX11_secondsOf_156 rfl rfl ?_
  refine v_iload_n 157 C dX11_secondsOf_157 rfl rfl ?_
  refine v_iload 158 C dX11_secondsOf_158 rfl ?_
  refine v_callV (st := []) 160 C [.int x2, .int x3, .int x4] lm_X11_190 ly_X11_kindAt (hB 0 _ rfl) (by decide) dX11_secondsOf_160 rfl (by decide) rfl (Nat.le_of_ble_eq_true rfl) (fun o1 h1 => m_X11_kindAt k hB x2 x3 x4 σ o1 h1) hf (fun v1 s2 hf => ?_)
  refine v_iconst (v := 2) 163 C dX11_secondsOf_163 (by decide) ?_
  refine v_icmp_ne (tgt := 174) 164 C dX11_secondsOf_164 (by decide) hf (fun hf => ?_) (fun hf => ?_)
  · refine v_iload 174 C dX11_secondsOf_174 rfl ?_
    exact v_iret 176 C rfl dX11_secondsOf_176 hf
  · refine v_iconst (v := 2) 167 C dX11_secondsOf_167 (by decide) ?_
    refine v_iload 168 C dX11_secondsOf_168 rfl ?_
    refine v_imul 170 C dX11_secondsOf_170 ?_
    refine v_goto (tgt := 176) 171 C dX11_secondsOf_171 (by decide) ?_
    exact v_iret 176 C rfl dX11_secondsOf_176 hf
def f_X11_secondsOf_b73 (k : Nat) (x2 : Int32) (x3 : Int32) (x4 : Int32) (t0 : Int32) (σ : Sg) : Rs := f_X11_secondsOf_b155 k x2 x3 x4 t0 σ
set_option maxRecDepth 100000 in
set_option maxHeartbeats 4000000 in
theorem k_X11_secondsOf_b73 {q : Mc} {E : En} {L : List Nat} {o : Int32 × Sg} (C : Cx q E L cX11_secondsOf 6 RX11 (some .int) (8)) (k : Nat) (hB : Bk L sh_AuntsPuzzleModel k) (x2 : Int32) (x3 : Int32) (x4 : Int32) (t0 : Int32) (σ : Sg) (hf : f_X11_secondsOf_b73 k x2 x3 x4 t0 σ = some o) : Vx q E L 6 (some .int) o 73 [(0, .ref (E.2.1 (k))), (2, .int x2), (3, .int x3), (4, .int x4)] [.int t0] σ := by
  unfold f_X11_secondsOf_b73 at hf
  refine v_istore (lv' := [(0, .ref (E.2.1 (k))), (2, .int x2), (3, .int x3), (4, .int x4), (5, .int t0)]) 73 C dX11_secondsOf_73 (by decide) rfl rfl ?_
  refine v_goto (tgt := 155) 75 C dX11_secondsOf_75 (by decide) ?_
  exact Vx.lv [0, 1, 2, 3, 4] rfl (k_X11_secondsOf_b155 C k hB x2 x3 x4 t0 σ hf)
def f_X11_secondsOf_b99 (k : Nat) (x2 : Int32) (x3 : Int32) (x4 : Int32) (t0 : Int32) (σ : Sg) : Rs := f_X11_secondsOf_b155 k x2 x3 x4 t0 σ
set_option maxRecDepth 100000 in
set_option maxHeartbeats 4000000 in
theorem k_X11_secondsOf_b99 {q : Mc} {E : En} {L : List Nat} {o : Int32 × Sg} (C : Cx q E L cX11_secondsOf 6 RX11 (some .int) (8)) (k : Nat) (hB : Bk L sh_AuntsPuzzleModel k) (x2 : Int32) (x3 : Int32) (x4 : Int32) (t0 : Int32) (σ : Sg) (hf : f_X11_secondsOf_b99 k x2 x3 x4 t0 σ = some o) : Vx q E L 6 (some .int) o 99 [(0, .ref (E.2.1 (k))), (2, .int x2), (3, .int x3), (4, .int x4)] [.int t0] σ := by
  unfold f_X11_secondsOf_b99 at hf
  refine v_istore (lv' := [(0, .ref (E.2.1 (k))), (2, .int x2), (3, .int x3), (4, .int x4), (5, .int t0)]) 99 C dX11_secondsOf_99 (by decide) rfl rfl ?_
  refine v_goto (tgt := 155) 101 C dX11_secondsOf_101 (by decide) ?_
  exact Vx.lv [0, 1, 2, 3, 4] rfl (k_X11_secondsOf_b155 C k hB x2 x3 x4 t0 σ hf)
def f_X11_secondsOf_b147 (k : Nat) (x2 : Int32) (x3 : Int32) (x4 : Int32) (t0 : Int32) (σ : Sg) : Rs := f_X11_secondsOf_b155 k x2 x3 x4 t0 σ
set_option maxRecDepth 100000 in
set_option maxHeartbeats 4000000 in
theorem k_X11_secondsOf_b147 {q : Mc} {E : En} {L : List Nat} {o : Int32 × Sg} (C : Cx q E L cX11_secondsOf 6 RX11 (some .int) (8)) (k : Nat) (hB : Bk L sh_AuntsPuzzleModel k) (x2 : Int32) (x3 : Int32) (x4 : Int32) (t0 : Int32) (σ : Sg) (hf : f_X11_secondsOf_b147 k x2 x3 x4 t0 σ = some o) : Vx q E L 6 (some .int) o 147 [(0, .ref (E.2.1 (k))), (2, .int x2), (3, .int x3), (4, .int x4)] [.int t0] σ := by
  unfold f_X11_secondsOf_b147 at hf
  refine v_istore (lv' := [(0, .ref (E.2.1 (k))), (2, .int x2), (3, .int x3), (4, .int x4), (5, .int t0)]) 147 C dX11_secondsOf_147 (by decide) rfl rfl ?_
  refine v_goto (tgt := 155) 149 C dX11_secondsOf_149 (by decide) ?_
  exact Vx.lv [0, 1, 2, 3, 4] rfl (k_X11_secondsOf_b155 C k hB x2 x3 x4 t0 σ hf)
def f_X11_secondsOf (k : Nat) (x1 : Int32) (x2 : Int32) (x3 : Int32) (x4 : Int32) (σ : Sg) : Rs := p_rd σ (k + 10) 6 x1 (fun v1 => p_rd σ (k + 9) 6 x1 (fun v2 => if v2 = 0 then (f_X11_secondsOf_b155 k x2 x3 x4 v1 σ) else (if v2 = 1 then (p_rd σ (k + 4) 16 x2 (fun v3 => p_rd σ (k + 4) 16 x4 (fun v4 => if v3 = v4 then (p_call (f_X11_halfUp v1 σ) (fun v5 s6 => f_X11_secondsOf_b73 k x2 x3 x4 v5 s6)) else (f_X11_secondsOf_b73 k x2 x3 x4 v1 σ)))) else (if v2 = 2 then (p_call (f_X11_isRim k x4 σ) (fun v7 s8 => if v7 = 0 then (f_X11_secondsOf_b99 k x2 x3 x4 (2 * v1) s8) else (p_call (f_X11_halfUp v1 s8) (fun v9 s10 => f_X11_secondsOf_b99 k x2 x3 x4 v9 s10)))) else (if v2 = 3 then (p_rd σ (k + 4) 16 x2 (fun v11 => if v11 = 3 then (f_X11_secondsOf_b147 k x2 x3 x4 (3 * v1) σ) else (p_rd σ (k + 4) 16 x2 (fun v12 => p_rd σ (k + 4) 16 x4 (fun v13 => if v12 = v13 then (p_call (f_X11_halfUp v1 σ) (fun v14 s15 => f_X11_secondsOf_b147 k x2 x3 x4 v14 s15)) else (f_X11_secondsOf_b147 k x2 x3 x4 v1 σ)))))) else (f_X11_secondsOf_b155 k x2 x3 x4 (v1 + 2) σ))))))
set_option maxRecDepth 100000 in
set_option maxHeartbeats 4000000 in
theorem k_X11_secondsOf_b0 {q : Mc} {E : En} {L : List Nat} {o : Int32 × Sg} (C : Cx q E L cX11_secondsOf 6 RX11 (some .int) (8)) (k : Nat) (hB : Bk L sh_AuntsPuzzleModel k) (x1 : Int32) (x2 : Int32) (x3 : Int32) (x4 : Int32) (σ : Sg) (hf : f_X11_secondsOf k x1 x2 x3 x4 σ = some o) : Vx q E L 6 (some .int) o 0 [(0, .ref (E.2.1 (k))), (1, .int x1), (2, .int x2), (3, .int x3), (4, .int x4)] [] σ := by
  unfold f_X11_secondsOf at hf
  refine v_aload_n 0 C dX11_secondsOf_0 rfl rfl ?_
  refine v_getR 1 C lk_X11_37 (hB 0 _ rfl) (by decide) rfl dX11_secondsOf_1 ?_
  refine v_iload_n 4 C dX11_secondsOf_4 rfl rfl ?_
  refine v_iald 5 C (hB 10 _ rfl) dX11_secondsOf_5 hf (fun v1 hf => ?_)
  refine v_istore (lv' := [(0, .ref (E.2.1 (k))), (1, .int x1), (2, .int x2), (3, .int x3), (4, .int x4), (5, .int v1)]) 6 C dX11_secondsOf_6 (by decide) rfl rfl ?_
  refine v_aload_n 8 C dX11_secondsOf_8 rfl rfl ?_
  refine v_getR 9 C lk_X11_34 (hB 0 _ rfl) (by decide) rfl dX11_secondsOf_9 ?_
  refine v_iload_n 12 C dX11_secondsOf_12 rfl rfl ?_
  refine v_iald 13 C (hB 9 _ rfl) dX11_secondsOf_13 hf (fun v2 hf => ?_)
  refine v_case (v := 0) hf (fun hx hf => ?_) (fun hn0 hf => ?_)
  · refine v_tabIn (tgt := 44) 14 C hx dX11_secondsOf_14 (by decide) rfl (by decide) ?_
    refine v_goto (tgt := 155) 44 C dX11_secondsOf_44 (by decide) ?_
    exact Vx.lv [0, 2, 3, 4, 5] rfl (k_X11_secondsOf_b155 C k hB x2 x3 x4 v1 σ hf)
  refine v_case (v := 1) hf (fun hx hf => ?_) (fun hn1 hf => ?_)
  · refine v_tabIn (tgt := 47) 14 C hx dX11_secondsOf_14 (by decide) rfl (by decide) ?_
    refine v_aload_n 47 C dX11_secondsOf_47 rfl rfl ?_
    refine v_getR 48 C lk_X11_19 (hB 0 _ rfl) (by decide) rfl dX11_secondsOf_48 ?_
    refine v_iload_n 51 C dX11_secondsOf_51 rfl rfl ?_
    refine v_iald 52 C (hB 4 _ rfl) dX11_secondsOf_52 hf (fun v3 hf => ?_)
    refine v_aload_n 53 C dX11_secondsOf_53 rfl rfl ?_
    refine v_getR 54 C lk_X11_19 (hB 0 _ rfl) (by decide) rfl dX11_secondsOf_54 ?_
    refine v_iload 57 C dX11_secondsOf_57 rfl ?_
    refine v_iald 59 C (hB 4 _ rfl) dX11_secondsOf_59 hf (fun v4 hf => ?_)
    refine v_icmp_ne (tgt := 71) 60 C dX11_secondsOf_60 (by decide) hf (fun hf => ?_) (fun hf => ?_)
    · refine v_iload 71 C dX11_secondsOf_71 rfl ?_
      exact Vx.lv [0, 2, 3, 4] rfl (k_X11_secondsOf_b73 C k hB x2 x3 x4 v1 σ hf)
    · refine v_iload 63 C dX11_secondsOf_63 rfl ?_
      refine v_callS (st := []) 65 C [.int v1] lm_X11_184 lz_X11_halfUp dX11_secondsOf_65 rfl (by decide) rfl (Nat.le_of_ble_eq_true rfl) (fun o1 h1 => m_X11_halfUp   v1 σ o1 h1) hf (fun v5 s6 hf => ?_)
      refine v_goto (tgt := 73) 68 C dX11_secondsOf_68 (by decide) ?_
      exact Vx.lv [0, 2, 3, 4] rfl (k_X11_secondsOf_b73 C k hB x2 x3 x4 v5 s6 hf)
  refine v_case (v := 2) hf (fun hx hf => ?_) (fun hn2 hf => ?_)
  · refine v_tabIn (tgt := 78) 14 C hx dX11_secondsOf_14 (by decide) rfl (by decide) ?_
    refine v_aload_n 78 C dX11_secondsOf_78 rfl rfl ?_
    refine v_iload 79 C dX11_secondsOf_79 rfl ?_
    refine v_callV (st := []) 81 C [.int x4] lm_X11_187 ly_X11_isRim (hB 0 _ rfl) (by decide) dX11_secondsOf_81 rfl (by decide) rfl (Nat.le_of_ble_eq_true rfl) (fun o1 h1 => m_X11_isRim k hB x4 σ o1 h1) hf (fun v7 s8 hf => ?_)
    refine v_if_eq (tgt := 95) 84 C dX11_secondsOf_84 (by decide) hf (fun hf => ?_) (fun hf => ?_)
    · refine v_iconst (v := 2) 95 C dX11_secondsOf_95 (by decide) ?_
      refine v_iload 96 C dX11_secondsOf_96 rfl ?_
      refine v_imul 98 C dX11_secondsOf_98 ?_
      exact Vx.lv [0, 2, 3, 4] rfl (k_X11_secondsOf_b99 C k hB x2 x3 x4 (2 * v1) s8 hf)
    · refine v_iload 87 C dX11_secondsOf_87 rfl ?_
      refine v_callS (st := []) 89 C [.int v1] lm_X11_184 lz_X11_halfUp dX11_secondsOf_89 rfl (by decide) rfl (Nat.le_of_ble_eq_true rfl) (fun o1 h1 => m_X11_halfUp   v1 s8 o1 h1) hf (fun v9 s10 hf => ?_)
      refine v_goto (tgt := 99) 92 C dX11_secondsOf_92 (by decide) ?_
      exact Vx.lv [0, 2, 3, 4] rfl (k_X11_secondsOf_b99 C k hB x2 x3 x4 v9 s10 hf)
  refine v_case (v := 3) hf (fun hx hf => ?_) (fun hn3 hf => ?_)
  · refine v_tabIn (tgt := 104) 14 C hx dX11_secondsOf_14 (by decide) rfl (by decide) ?_
    refine v_aload_n 104 C dX11_secondsOf_104 rfl rfl ?_
    refine v_getR 105 C lk_X11_19 (hB 0 _ rfl) (by decide) rfl dX11_secondsOf_105 ?_
    refine v_iload_n 108 C dX11_secondsOf_108 rfl rfl ?_
    refine v_iald 109 C (hB 4 _ rfl) dX11_secondsOf_109 hf (fun v11 hf => ?_)
    refine v_iconst (v := 3) 110 C dX11_secondsOf_110 (by decide) ?_
    refine v_icmp_ne (tgt := 121) 111 C dX11_secondsOf_111 (by decide) hf (fun hf => ?_) (fun hf => ?_)
    · refine v_aload_n 121 C dX11_secondsOf_121 rfl rfl ?_
      refine v_getR 122 C lk_X11_19 (hB 0 _ rfl) (by decide) rfl dX11_secondsOf_122 ?_
      refine v_iload_n 125 C dX11_secondsOf_125 rfl rfl ?_
      refine v_iald 126 C (hB 4 _ rfl) dX11_secondsOf_126 hf (fun v12 hf => ?_)
      refine v_aload_n 127 C dX11_secondsOf_127 rfl rfl ?_
      refine v_getR 128 C lk_X11_19 (hB 0 _ rfl) (by decide) rfl dX11_secondsOf_128 ?_
      refine v_iload 131 C dX11_secondsOf_131 rfl ?_
      refine v_iald 133 C (hB 4 _ rfl) dX11_secondsOf_133 hf (fun v13 hf => ?_)
      refine v_icmp_ne (tgt := 145) 134 C dX11_secondsOf_134 (by decide) hf (fun hf => ?_) (fun hf => ?_)
      · refine v_iload 145 C dX11_secondsOf_145 rfl ?_
        exact Vx.lv [0, 2, 3, 4] rfl (k_X11_secondsOf_b147 C k hB x2 x3 x4 v1 σ hf)
      · refine v_iload 137 C dX11_secondsOf_137 rfl ?_
        refine v_callS (st := []) 139 C [.int v1] lm_X11_184 lz_X11_halfUp dX11_secondsOf_139 rfl (by decide) rfl (Nat.le_of_ble_eq_true rfl) (fun o1 h1 => m_X11_halfUp   v1 σ o1 h1) hf (fun v14 s15 hf => ?_)
        refine v_goto (tgt := 147) 142 C dX11_secondsOf_142 (by decide) ?_
        exact Vx.lv [0, 2, 3, 4] rfl (k_X11_secondsOf_b147 C k hB x2 x3 x4 v14 s15 hf)
    · refine v_iconst (v := 3) 114 C dX11_secondsOf_114 (by decide) ?_
      refine v_iload 115 C dX11_secondsOf_115 rfl ?_
      refine v_imul 117 C dX11_secondsOf_117 ?_
      refine v_goto (tgt := 147) 118 C dX11_secondsOf_118 (by decide) ?_
      exact Vx.lv [0, 2, 3, 4] rfl (k_X11_secondsOf_b147 C k hB x2 x3 x4 (3 * v1) σ hf)
  refine v_tabOut (tgt := 152) 14 C dX11_secondsOf_14 (by have g0 := lv_neT hn0 (show (0 : Int32).toInt = 0 from rfl); have g1 := lv_neT hn1 (show (1 : Int32).toInt = 1 from rfl); have g2 := lv_neT hn2 (show (2 : Int32).toInt = 2 from rfl); have g3 := lv_neT hn3 (show (3 : Int32).toInt = 3 from rfl); omega) (by decide) ?_
  refine v_iinc (v := v1 + 2) (lv' := [(0, .ref (E.2.1 (k))), (1, .int x1), (2, .int x2), (3, .int x3), (4, .int x4), (5, .int (v1 + 2))]) 152 C dX11_secondsOf_152 rfl (by rfl) (by decide) rfl rfl ?_
  exact Vx.lv [0, 2, 3, 4, 5] rfl (k_X11_secondsOf_b155 C k hB x2 x3 x4 (v1 + 2) σ hf)
theorem m_X11_secondsOf {l : Launch} {E : En} {L : List Nat} (k : Nat) (hB : Bk L sh_AuntsPuzzleModel k) (x1 : Int32) (x2 : Int32) (x3 : Int32) (x4 : Int32) (σ : Sg) (o : Int32 × Sg) (hf : f_X11_secondsOf k x1 x2 x3 x4 σ = some o) : Mi l yX11_secondsOf cX11_secondsOf 6 (some .int) (8) E L [.ref (E.2.1 (k)), .int x1, .int x2, .int x3, .int x4] σ o :=
  Mi.of RX11 rfl (by decide) (Nat.le_of_ble_eq_true rfl) (fun q hq C => by subst hq; exact k_X11_secondsOf_b0 C k hB x1 x2 x3 x4 σ hf)
def f_X11_isLaid_b2 (k : Nat)  : Nat → Int32 → Int32 → Sg → Rs
  | 0, _, _, _ => none
  | n + 1, x1, x2, σ => p_call (f_X11_cells k σ) (fun v1 s2 => if v1 ≤ x2 then (some (0, s2)) else (p_rd s2 (k + 5) 16 x2 (fun v3 => if v3 = x1 then (some (1, s2)) else (f_X11_isLaid_b2 k n x1 (x2 + 1) s2))))
set_option maxRecDepth 100000 in
set_option maxHeartbeats 4000000 in
theorem k_X11_isLaid_b2 {q : Mc} {E : En} {L : List Nat} {o : Int32 × Sg} (C : Cx q E L cX11_isLaid 3 RX11 (some .boolean) (2)) (k : Nat) (hB : Bk L sh_AuntsPuzzleModel k) (n : Nat) : ∀ (x1 : Int32) (x2 : Int32) (σ : Sg), f_X11_isLaid_b2 k n x1 x2 σ = some o → Vx q E L 3 (some .boolean) o 2 [(0, .ref (E.2.1 (k))), (1, .int x1), (2, .int x2)] [] σ := by
  induction n with
  | zero => intro x1 x2 σ hf; cases (show (none : Rs) = some o from hf)
  | succ n ih =>
    intro x1 x2 σ hf
    rw [f_X11_isLaid_b2] at hf
    refine v_iload_n 2 C dX11_isLaid_2 rfl rfl ?_
    refine v_aload_n 3 C dX11_isLaid_3 rfl rfl ?_
    refine v_callV (st := [.int x2]) 4 C [] lm_X11_91 ly_X11_cells (hB 0 _ rfl) (by decide) dX11_isLaid_4 rfl (by decide) rfl (Nat.le_of_ble_eq_true rfl) (fun o1 h1 => m_X11_cells k hB  σ o1 h1) hf (fun v1 s2 hf => ?_)
    refine v_icmp_ge (tgt := 28) 7 C dX11_isLaid_7 (by decide) hf (fun hf => ?_) (fun hf => ?_)
    · refine v_iconst (v := 0) 28 C dX11_isLaid_28 (by decide) ?_
      exact v_zretN 29 C rfl dX11_isLaid_29 (by decide) hf
    · refine v_aload_n 10 C dX11_isLaid_10 rfl rfl ?_
      refine v_getR 11 C lk_X11_22 (hB 0 _ rfl) (by decide) rfl dX11_isLaid_11 ?_
      refine v_iload_n 14 C dX11_isLaid_14 rfl rfl ?_
      refine v_iald 15 C (hB 5 _ rfl) dX11_isLaid_15 hf (fun v3 hf => ?_)
      refine v_iload_n 16 C dX11_isLaid_16 rfl rfl ?_
      refine v_icmp_ne (tgt := 22) 17 C dX11_isLaid_17 (by decide) hf (fun hf => ?_) (fun hf => ?_)
      · refine v_iinc (v := x2 + 1) (lv' := [(0, .ref (E.2.1 (k))), (1, .int x1), (2, .int (x2 + 1))]) 22 C dX11_isLaid_22 rfl (by rfl) (by decide) rfl rfl ?_
        refine v_goto (tgt := 2) 25 C dX11_isLaid_25 (by decide) ?_
        exact Vx.lv [0, 1, 2] rfl (ih x1 (x2 + 1) s2 hf)
      · refine v_iconst (v := 1) 20 C dX11_isLaid_20 (by decide) ?_
        exact v_zretN 21 C rfl dX11_isLaid_21 (by decide) hf
def f_X11_isLaid (k : Nat) (x1 : Int32) (σ : Sg) : Rs := f_X11_isLaid_b2 k fu x1 0 σ
set_option maxRecDepth 100000 in
set_option maxHeartbeats 4000000 in
theorem k_X11_isLaid_b0 {q : Mc} {E : En} {L : List Nat} {o : Int32 × Sg} (C : Cx q E L cX11_isLaid 3 RX11 (some .boolean) (2)) (k : Nat) (hB : Bk L sh_AuntsPuzzleModel k) (x1 : Int32) (σ : Sg) (hf : f_X11_isLaid k x1 σ = some o) : Vx q E L 3 (some .boolean) o 0 [(0, .ref (E.2.1 (k))), (1, .int x1)] [] σ := by
  unfold f_X11_isLaid at hf
  refine v_iconst (v := 0) 0 C dX11_isLaid_0 (by decide) ?_
  refine v_istore_n (lv' := [(0, .ref (E.2.1 (k))), (1, .int x1), (2, .int 0)]) 1 C dX11_isLaid_1 rfl (by decide) rfl rfl ?_
  exact Vx.lv [0, 1, 2] rfl (k_X11_isLaid_b2 C k hB fu x1 0 σ hf)
theorem m_X11_isLaid {l : Launch} {E : En} {L : List Nat} (k : Nat) (hB : Bk L sh_AuntsPuzzleModel k) (x1 : Int32) (σ : Sg) (o : Int32 × Sg) (hf : f_X11_isLaid k x1 σ = some o) : Mi l yX11_isLaid cX11_isLaid 3 (some .boolean) (2) E L [.ref (E.2.1 (k)), .int x1] σ o :=
  Mi.of RX11 rfl (by decide) (Nat.le_of_ble_eq_true rfl) (fun q hq C => by subst hq; exact k_X11_isLaid_b0 C k hB x1 σ hf)
def f_X11_laidMany_b27 (k : Nat) (r4 : Int32 → Int32 → Sg → Rs) (x2 : Int32) (t0 : Int32) (t1 : Int32) (σ : Sg) : Rs := r4 (t0 + t1) (x2 + 1) σ
set_option maxRecDepth 100000 in
set_option maxHeartbeats 4000000 in
theorem k_X11_laidMany_b27 {q : Mc} {E : En} {L : List Nat} {o : Int32 × Sg} (C : Cx q E L cX11_laidMany 3 RX11 (some .int) (2)) (k : Nat) (hB : Bk L sh_AuntsPuzzleModel k) (r4 : Int32 → Int32 → Sg → Rs) (hr4 : ∀ (x1 : Int32) (x2 : Int32) (σ : Sg), r4 x1 x2 σ = some o → Vx q E L 3 (some .int) o 4 [(0, .ref (E.2.1 (k))), (1, .int x1), (2, .int x2)] [] σ) (x2 : Int32) (t0 : Int32) (t1 : Int32) (σ : Sg) (hf : f_X11_laidMany_b27 k r4 x2 t0 t1 σ = some o) : Vx q E L 3 (some .int) o 27 [(0, .ref (E.2.1 (k))), (2, .int x2)] [.int t1, .int t0] σ := by
  unfold f_X11_laidMany_b27 at hf
  refine v_iadd 27 C dX11_laidMany_27 ?_
  refine v_istore_n (lv' := [(0, .ref (E.2.1 (k))), (2, .int x2), (1, .int (t0 + t1))]) 28 C dX11_laidMany_28 rfl (by decide) rfl rfl ?_
  refine v_iinc (v := x2 + 1) (lv' := [(0, .ref (E.2.1 (k))), (2, .int (x2 + 1)), (1, .int (t0 + t1))]) 29 C dX11_laidMany_29 rfl (by rfl) (by decide) rfl rfl ?_
  refine v_goto (tgt := 4) 32 C dX11_laidMany_32 (by decide) ?_
  exact Vx.lv [0, 2, 1] rfl (hr4 (t0 + t1) (x2 + 1) σ hf)
def f_X11_laidMany_b4 (k : Nat)  : Nat → Int32 → Int32 → Sg → Rs
  | 0, _, _, _ => none
  | n + 1, x1, x2, σ => p_call (f_X11_cells k σ) (fun v1 s2 => if v1 ≤ x2 then (some (x1, s2)) else (p_rd s2 (k + 5) 16 x2 (fun v3 => if v3 < 0 then (f_X11_laidMany_b27 k (f_X11_laidMany_b4 k n) x2 x1 0 s2) else (f_X11_laidMany_b27 k (f_X11_laidMany_b4 k n) x2 x1 1 s2))))
set_option maxRecDepth 100000 in
set_option maxHeartbeats 4000000 in
theorem k_X11_laidMany_b4 {q : Mc} {E : En} {L : List Nat} {o : Int32 × Sg} (C : Cx q E L cX11_laidMany 3 RX11 (some .int) (2)) (k : Nat) (hB : Bk L sh_AuntsPuzzleModel k) (n : Nat) : ∀ (x1 : Int32) (x2 : Int32) (σ : Sg), f_X11_laidMany_b4 k n x1 x2 σ = some o → Vx q E L 3 (some .int) o 4 [(0, .ref (E.2.1 (k))), (1, .int x1), (2, .int x2)] [] σ := by
  induction n with
  | zero => intro x1 x2 σ hf; cases (show (none : Rs) = some o from hf)
  | succ n ih =>
    intro x1 x2 σ hf
    rw [f_X11_laidMany_b4] at hf
    refine v_iload_n 4 C dX11_laidMany_4 rfl rfl ?_
    refine v_aload_n 5 C dX11_laidMany_5 rfl rfl ?_
    refine v_callV (st := [.int x2]) 6 C [] lm_X11_91 ly_X11_cells (hB 0 _ rfl) (by decide) dX11_laidMany_6 rfl (by decide) rfl (Nat.le_of_ble_eq_true rfl) (fun o1 h1 => m_X11_cells k hB  σ o1 h1) hf (fun v1 s2 hf => ?_)
    refine v_icmp_ge (tgt := 35) 9 C dX11_laidMany_9 (by decide) hf (fun hf => ?_) (fun hf => ?_)
    · refine v_iload_n 35 C dX11_laidMany_35 rfl rfl ?_
      exact v_iret 36 C rfl dX11_laidMany_36 hf
    · refine v_iload_n 12 C dX11_laidMany_12 rfl rfl ?_
      refine v_aload_n 13 C dX11_laidMany_13 rfl rfl ?_
      refine v_getR 14 C lk_X11_22 (hB 0 _ rfl) (by decide) rfl dX11_laidMany_14 ?_
      refine v_iload_n 17 C dX11_laidMany_17 rfl rfl ?_
      refine v_iald 18 C (hB 5 _ rfl) dX11_laidMany_18 hf (fun v3 hf => ?_)
      refine v_if_lt (tgt := 26) 19 C dX11_laidMany_19 (by decide) hf (fun hf => ?_) (fun hf => ?_)
      · refine v_iconst (v := 0) 26 C dX11_laidMany_26 (by decide) ?_
        exact Vx.lv [0, 2] rfl (k_X11_laidMany_b27 C k hB (f_X11_laidMany_b4 k n) ih x2 x1 0 s2 hf)
      · refine v_iconst (v := 1) 22 C dX11_laidMany_22 (by decide) ?_
        refine v_goto (tgt := 27) 23 C dX11_laidMany_23 (by decide) ?_
        exact Vx.lv [0, 2] rfl (k_X11_laidMany_b27 C k hB (f_X11_laidMany_b4 k n) ih x2 x1 1 s2 hf)
def f_X11_laidMany (k : Nat) (σ : Sg) : Rs := f_X11_laidMany_b4 k fu 0 0 σ
set_option maxRecDepth 100000 in
set_option maxHeartbeats 4000000 in
theorem k_X11_laidMany_b0 {q : Mc} {E : En} {L : List Nat} {o : Int32 × Sg} (C : Cx q E L cX11_laidMany 3 RX11 (some .int) (2)) (k : Nat) (hB : Bk L sh_AuntsPuzzleModel k) (σ : Sg) (hf : f_X11_laidMany k σ = some o) : Vx q E L 3 (some .int) o 0 [(0, .ref (E.2.1 (k)))] [] σ := by
  unfold f_X11_laidMany at hf
  refine v_iconst (v := 0) 0 C dX11_laidMany_0 (by decide) ?_
  refine v_istore_n (lv' := [(0, .ref (E.2.1 (k))), (1, .int 0)]) 1 C dX11_laidMany_1 rfl (by decide) rfl rfl ?_
  refine v_iconst (v := 0) 2 C dX11_laidMany_2 (by decide) ?_
  refine v_istore_n (lv' := [(0, .ref (E.2.1 (k))), (1, .int 0), (2, .int 0)]) 3 C dX11_laidMany_3 rfl (by decide) rfl rfl ?_
  exact Vx.lv [0, 1, 2] rfl (k_X11_laidMany_b4 C k hB fu 0 0 σ hf)
theorem m_X11_laidMany {l : Launch} {E : En} {L : List Nat} (k : Nat) (hB : Bk L sh_AuntsPuzzleModel k) (σ : Sg) (o : Int32 × Sg) (hf : f_X11_laidMany k σ = some o) : Mi l yX11_laidMany cX11_laidMany 3 (some .int) (2) E L [.ref (E.2.1 (k))] σ o :=
  Mi.of RX11 rfl (by decide) (Nat.le_of_ble_eq_true rfl) (fun q hq C => by subst hq; exact k_X11_laidMany_b0 C k hB  σ hf)
def f_X11_lostMany_b4 (k : Nat)  : Nat → Int32 → Int32 → Sg → Rs
  | 0, _, _, _ => none
  | n + 1, x1, x2, σ => p_call (f_X11_cells k σ) (fun v1 s2 => if v1 ≤ x2 then (some (x1, s2)) else (p_rd s2 (k + 8) 16 x2 (fun v3 => f_X11_lostMany_b4 k n (x1 + v3) (x2 + 1) s2)))
set_option maxRecDepth 100000 in
set_option maxHeartbeats 4000000 in
theorem k_X11_lostMany_b4 {q : Mc} {E : En} {L : List Nat} {o : Int32 × Sg} (C : Cx q E L cX11_lostMany 3 RX11 (some .int) (2)) (k : Nat) (hB : Bk L sh_AuntsPuzzleModel k) (n : Nat) : ∀ (x1 : Int32) (x2 : Int32) (σ : Sg), f_X11_lostMany_b4 k n x1 x2 σ = some o → Vx q E L 3 (some .int) o 4 [(0, .ref (E.2.1 (k))), (1, .int x1), (2, .int x2)] [] σ := by
  induction n with
  | zero => intro x1 x2 σ hf; cases (show (none : Rs) = some o from hf)
  | succ n ih =>
    intro x1 x2 σ hf
    rw [f_X11_lostMany_b4] at hf
    refine v_iload_n 4 C dX11_lostMany_4 rfl rfl ?_
    refine v_aload_n 5 C dX11_lostMany_5 rfl rfl ?_
    refine v_callV (st := [.int x2]) 6 C [] lm_X11_91 ly_X11_cells (hB 0 _ rfl) (by decide) dX11_lostMany_6 rfl (by decide) rfl (Nat.le_of_ble_eq_true rfl) (fun o1 h1 => m_X11_cells k hB  σ o1 h1) hf (fun v1 s2 hf => ?_)
    refine v_icmp_ge (tgt := 27) 9 C dX11_lostMany_9 (by decide) hf (fun hf => ?_) (fun hf => ?_)
    · refine v_iload_n 27 C dX11_lostMany_27 rfl rfl ?_
      exact v_iret 28 C rfl dX11_lostMany_28 hf
    · refine v_iload_n 12 C dX11_lostMany_12 rfl rfl ?_
      refine v_aload_n 13 C dX11_lostMany_13 rfl rfl ?_
      refine v_getR 14 C lk_X11_31 (hB 0 _ rfl) (by decide) rfl dX11_lostMany_14 ?_
      refine v_iload_n 17 C dX11_lostMany_17 rfl rfl ?_
      refine v_iald 18 C (hB 8 _ rfl) dX11_lostMany_18 hf (fun v3 hf => ?_)
      refine v_iadd 19 C dX11_lostMany_19 ?_
      refine v_istore_n (lv' := [(0, .ref (E.2.1 (k))), (1, .int (x1 + v3)), (2, .int x2)]) 20 C dX11_lostMany_20 rfl (by decide) rfl rfl ?_
      refine v_iinc (v := x2 + 1) (lv' := [(0, .ref (E.2.1 (k))), (1, .int (x1 + v3)), (2, .int (x2 + 1))]) 21 C dX11_lostMany_21 rfl (by rfl) (by decide) rfl rfl ?_
      refine v_goto (tgt := 4) 24 C dX11_lostMany_24 (by decide) ?_
      exact Vx.lv [0, 1, 2] rfl (ih (x1 + v3) (x2 + 1) s2 hf)
def f_X11_lostMany (k : Nat) (σ : Sg) : Rs := f_X11_lostMany_b4 k fu 0 0 σ
set_option maxRecDepth 100000 in
set_option maxHeartbeats 4000000 in
theorem k_X11_lostMany_b0 {q : Mc} {E : En} {L : List Nat} {o : Int32 × Sg} (C : Cx q E L cX11_lostMany 3 RX11 (some .int) (2)) (k : Nat) (hB : Bk L sh_AuntsPuzzleModel k) (σ : Sg) (hf : f_X11_lostMany k σ = some o) : Vx q E L 3 (some .int) o 0 [(0, .ref (E.2.1 (k)))] [] σ := by
  unfold f_X11_lostMany at hf
  refine v_iconst (v := 0) 0 C dX11_lostMany_0 (by decide) ?_
  refine v_istore_n (lv' := [(0, .ref (E.2.1 (k))), (1, .int 0)]) 1 C dX11_lostMany_1 rfl (by decide) rfl rfl ?_
  refine v_iconst (v := 0) 2 C dX11_lostMany_2 (by decide) ?_
  refine v_istore_n (lv' := [(0, .ref (E.2.1 (k))), (1, .int 0), (2, .int 0)]) 3 C dX11_lostMany_3 rfl (by decide) rfl rfl ?_
  exact Vx.lv [0, 1, 2] rfl (k_X11_lostMany_b4 C k hB fu 0 0 σ hf)
theorem m_X11_lostMany {l : Launch} {E : En} {L : List Nat} (k : Nat) (hB : Bk L sh_AuntsPuzzleModel k) (σ : Sg) (o : Int32 × Sg) (hf : f_X11_lostMany k σ = some o) : Mi l yX11_lostMany cX11_lostMany 3 (some .int) (2) E L [.ref (E.2.1 (k))] σ o :=
  Mi.of RX11 rfl (by decide) (Nat.le_of_ble_eq_true rfl) (fun q hq C => by subst hq; exact k_X11_lostMany_b0 C k hB  σ hf)
def f_X11_side_b32 (k : Nat) (σ : Sg) : Rs := p_call (f_X11_lower k (-2) σ) (fun v1 s2 => some (v1, s2))
set_option maxRecDepth 100000 in
set_option maxHeartbeats 4000000 in
theorem k_X11_side_b32 {q : Mc} {E : En} {L : List Nat} {o : Int32 × Sg} (C : Cx q E L cX11_side 4 RX11 (some .int) (5)) (k : Nat) (hB : Bk L sh_AuntsPuzzleModel k) (σ : Sg) (hf : f_X11_side_b32 k σ = some o) : Vx q E L 4 (some .int) o 32 [(0, .ref (E.2.1 (k)))] [] σ := by
  unfold f_X11_side_b32 at hf
  refine v_aload_n 32 C dX11_side_32 rfl rfl ?_
  refine v_bipush (v := (-2)) 33 C dX11_side_33 (by decide) ?_
  refine v_callV (st := []) 35 C [.int (-2)] lm_X11_193 ly_X11_lower (hB 0 _ rfl) (by decide) dX11_side_35 rfl (by decide) rfl (Nat.le_of_ble_eq_true rfl) (fun o1 h1 => m_X11_lower k hB (-2) σ o1 h1) hf (fun v1 s2 hf => ?_)
  exact v_iret 38 C rfl dX11_side_38 hf
def f_X11_side (k : Nat) (x1 : Int32) (x2 : Int32) (x3 : Int32) (σ : Sg) : Rs := p_call (f_X11_isCell k x1 σ) (fun v1 s2 => if v1 = 0 then (p_call (f_X11_lower k (-1) s2) (fun v9 s10 => some (v9, s10))) else (p_call (f_X11_isIn x2 0 3 s2) (fun v3 s4 => if v3 = 0 then (f_X11_side_b32 k s4) else (p_call (f_X11_isIn x3 0 3 s4) (fun v5 s6 => if v5 = 0 then (f_X11_side_b32 k s6) else (p_call (f_X11_turned k x1 x2 x3 s6) (fun v7 s8 => some (v7, s8))))))))
set_option maxRecDepth 100000 in
set_option maxHeartbeats 4000000 in
theorem k_X11_side_b0 {q : Mc} {E : En} {L : List Nat} {o : Int32 × Sg} (C : Cx q E L cX11_side 4 RX11 (some .int) (5)) (k : Nat) (hB : Bk L sh_AuntsPuzzleModel k) (x1 : Int32) (x2 : Int32) (x3 : Int32) (σ : Sg) (hf : f_X11_side k x1 x2 x3 σ = some o) : Vx q E L 4 (some .int) o 0 [(0, .ref (E.2.1 (k))), (1, .int x1), (2, .int x2), (3, .int x3)] [] σ := by
  unfold f_X11_side at hf
  refine v_aload_n 0 C dX11_side_0 rfl rfl ?_
  refine v_iload_n 1 C dX11_side_1 rfl rfl ?_
  refine v_callV (st := []) 2 C [.int x1] lm_X11_144 ly_X11_isCell (hB 0 _ rfl) (by decide) dX11_side_2 rfl (by decide) rfl (Nat.le_of_ble_eq_true rfl) (fun o1 h1 => m_X11_isCell k hB x1 σ o1 h1) hf (fun v1 s2 hf => ?_)
  refine v_if_ne (tgt := 14) 5 C dX11_side_5 (by decide) hf (fun hf => ?_) (fun hf => ?_)
  · refine v_iload_n 14 C dX11_side_14 rfl rfl ?_
    refine v_iconst (v := 0) 15 C dX11_side_15 (by decide) ?_
    refine v_iconst (v := 3) 16 C dX11_side_16 (by decide) ?_
    refine v_callS (st := []) 17 C [.int x2, .int 0, .int 3] lm_X11_124 lz_X11_isIn dX11_side_17 rfl (by decide) rfl (Nat.le_of_ble_eq_true rfl) (fun o1 h1 => m_X11_isIn   x2 0 3 s2 o1 h1) hf (fun v3 s4 hf => ?_)
    refine v_if_eq (tgt := 32) 20 C dX11_side_20 (by decide) hf (fun hf => ?_) (fun hf => ?_)
    · exact Vx.lv [0] rfl (k_X11_side_b32 C k hB s4 hf)
    · refine v_iload_n 23 C dX11_side_23 rfl rfl ?_
      refine v_iconst (v := 0) 24 C dX11_side_24 (by decide) ?_
      refine v_iconst (v := 3) 25 C dX11_side_25 (by decide) ?_
      refine v_callS (st := []) 26 C [.int x3, .int 0, .int 3] lm_X11_124 lz_X11_isIn dX11_side_26 rfl (by decide) rfl (Nat.le_of_ble_eq_true rfl) (fun o1 h1 => m_X11_isIn   x3 0 3 s4 o1 h1) hf (fun v5 s6 hf => ?_)
      refine v_if_ne (tgt := 39) 29 C dX11_side_29 (by decide) hf (fun hf => ?_) (fun hf => ?_)
      · refine v_aload_n 39 C dX11_side_39 rfl rfl ?_
        refine v_iload_n 40 C dX11_side_40 rfl rfl ?_
        refine v_iload_n 41 C dX11_side_41 rfl rfl ?_
        refine v_iload_n 42 C dX11_side_42 rfl rfl ?_
        refine v_callV (st := []) 43 C [.int x1, .int x2, .int x3] lm_X11_175 ly_X11_turned (hB 0 _ rfl) (by decide) dX11_side_43 rfl (by decide) rfl (Nat.le_of_ble_eq_true rfl) (fun o1 h1 => m_X11_turned k hB x1 x2 x3 s6 o1 h1) hf (fun v7 s8 hf => ?_)
        exact v_iret 46 C rfl dX11_side_46 hf
      · exact Vx.lv [0] rfl (k_X11_side_b32 C k hB s6 hf)
  · refine v_aload_n 8 C dX11_side_8 rfl rfl ?_
    refine v_iconst (v := (-1)) 9 C dX11_side_9 (by decide) ?_
    refine v_callV (st := []) 10 C [.int (-1)] lm_X11_193 ly_X11_lower (hB 0 _ rfl) (by decide) dX11_side_10 rfl (by decide) rfl (Nat.le_of_ble_eq_true rfl) (fun o1 h1 => m_X11_lower k hB (-1) s2 o1 h1) hf (fun v9 s10 hf => ?_)
    exact v_iret 13 C rfl dX11_side_13 hf
theorem m_X11_side {l : Launch} {E : En} {L : List Nat} (k : Nat) (hB : Bk L sh_AuntsPuzzleModel k) (x1 : Int32) (x2 : Int32) (x3 : Int32) (σ : Sg) (o : Int32 × Sg) (hf : f_X11_side k x1 x2 x3 σ = some o) : Mi l yX11_side cX11_side 4 (some .int) (5) E L [.ref (E.2.1 (k)), .int x1, .int x2, .int x3] σ o :=
  Mi.of RX11 rfl (by decide) (Nat.le_of_ble_eq_true rfl) (fun q hq C => by subst hq; exact k_X11_side_b0 C k hB x1 x2 x3 σ hf)
def f_X11_colour (k : Nat) (x1 : Int32) (σ : Sg) : Rs := p_call (f_X11_isCell k x1 σ) (fun v1 s2 => if v1 = 0 then (p_call (f_X11_no k (-1) s2) (fun v3 s4 => some (v3, s4))) else (p_rd s2 (k + 4) 16 x1 (fun v5 => some (v5, s2))))
set_option maxRecDepth 100000 in
set_option maxHeartbeats 4000000 in
theorem k_X11_colour_b0 {q : Mc} {E : En} {L : List Nat} {o : Int32 × Sg} (C : Cx q E L cX11_colour 2 RX11 (some .int) (3)) (k : Nat) (hB : Bk L sh_AuntsPuzzleModel k) (x1 : Int32) (σ : Sg) (hf : f_X11_colour k x1 σ = some o) : Vx q E L 2 (some .int) o 0 [(0, .ref (E.2.1 (k))), (1, .int x1)] [] σ := by
  unfold f_X11_colour at hf
  refine v_aload_n 0 C dX11_colour_0 rfl rfl ?_
  refine v_iload_n 1 C dX11_colour_1 rfl rfl ?_
  refine v_callV (st := []) 2 C [.int x1] lm_X11_144 ly_X11_isCell (hB 0 _ rfl) (by decide) dX11_colour_2 rfl (by decide) rfl (Nat.le_of_ble_eq_true rfl) (fun o1 h1 => m_X11_isCell k hB x1 σ o1 h1) hf (fun v1 s2 hf => ?_)
  refine v_if_eq (tgt := 17) 5 C dX11_colour_5 (by decide) hf (fun hf => ?_) (fun hf => ?_)
  · refine v_aload_n 17 C dX11_colour_17 rfl rfl ?_
    refine v_iconst (v := (-1)) 18 C dX11_colour_18 (by decide) ?_
    refine v_callV (st := []) 19 C [.int (-1)] lm_X11_112 ly_X11_no (hB 0 _ rfl) (by decide) dX11_colour_19 rfl (by decide) rfl (Nat.le_of_ble_eq_true rfl) (fun o1 h1 => m_X11_no k hB (-1) s2 o1 h1) hf (fun v3 s4 hf => ?_)
    exact v_iret 22 C rfl dX11_colour_22 hf
  · refine v_aload_n 8 C dX11_colour_8 rfl rfl ?_
    refine v_getR 9 C lk_X11_19 (hB 0 _ rfl) (by decide) rfl dX11_colour_9 ?_
    refine v_iload_n 12 C dX11_colour_12 rfl rfl ?_
    refine v_iald 13 C (hB 4 _ rfl) dX11_colour_13 hf (fun v5 hf => ?_)
    refine v_goto (tgt := 22) 14 C dX11_colour_14 (by decide) ?_
    exact v_iret 22 C rfl dX11_colour_22 hf
theorem m_X11_colour {l : Launch} {E : En} {L : List Nat} (k : Nat) (hB : Bk L sh_AuntsPuzzleModel k) (x1 : Int32) (σ : Sg) (o : Int32 × Sg) (hf : f_X11_colour k x1 σ = some o) : Mi l yX11_colour cX11_colour 2 (some .int) (3) E L [.ref (E.2.1 (k)), .int x1] σ o :=
  Mi.of RX11 rfl (by decide) (Nat.le_of_ble_eq_true rfl) (fun q hq C => by subst hq; exact k_X11_colour_b0 C k hB x1 σ hf)
def f_X11_person_b101 (k : Nat) (r65 : Int32 → Int32 → Int32 → Sg → Rs) (x1 : Int32) (x4 : Int32) (t0 : Int32) (t1 : Int32) (σ : Sg) : Rs := r65 x1 (t0 + t1) (x4 + 1) σ
set_option maxRecDepth 100000 in
set_option maxHeartbeats 4000000 in
theorem k_X11_person_b101 {q : Mc} {E : En} {L : List Nat} {o : Int32 × Sg} (C : Cx q E L cX11_person 5 RX11 (some .int) (2)) (k : Nat) (hB : Bk L sh_AuntsPuzzleModel k) (r65 : Int32 → Int32 → Int32 → Sg → Rs) (hr65 : ∀ (x1 : Int32) (x3 : Int32) (x4 : Int32) (σ : Sg), r65 x1 x3 x4 σ = some o → Vx q E L 5 (some .int) o 65 [(0, .ref (E.2.1 (k))), (1, .int x1), (3, .int x3), (4, .int x4)] [] σ) (x1 : Int32) (x4 : Int32) (t0 : Int32) (t1 : Int32) (σ : Sg) (hf : f_X11_person_b101 k r65 x1 x4 t0 t1 σ = some o) : Vx q E L 5 (some .int) o 101 [(0, .ref (E.2.1 (k))), (1, .int x1), (4, .int x4)] [.int t1, .int t0] σ := by
  unfold f_X11_person_b101 at hf
  refine v_iadd 101 C dX11_person_101 ?_
  refine v_istore_n (lv' := [(0, .ref (E.2.1 (k))), (1, .int x1), (4, .int x4), (3, .int (t0 + t1))]) 102 C dX11_person_102 rfl (by decide) rfl rfl ?_
  refine v_iinc (v := x4 + 1) (lv' := [(0, .ref (E.2.1 (k))), (1, .int x1), (4, .int (x4 + 1)), (3, .int (t0 + t1))]) 103 C dX11_person_103 rfl (by rfl) (by decide) rfl rfl ?_
  refine v_goto (tgt := 65) 106 C dX11_person_106 (by decide) ?_
  exact Vx.lv [0, 1, 3, 2] rfl (hr65 x1 (t0 + t1) (x4 + 1) σ hf)
def f_X11_person_b100 (k : Nat) (r65 : Int32 → Int32 → Int32 → Sg → Rs) (x1 : Int32) (x4 : Int32) (t0 : Int32) (σ : Sg) : Rs := f_X11_person_b101 k r65 x1 x4 t0 0 σ
set_option maxRecDepth 100000 in
set_option maxHeartbeats 4000000 in
theorem k_X11_person_b100 {q : Mc} {E : En} {L : List Nat} {o : Int32 × Sg} (C : Cx q E L cX11_person 5 RX11 (some .int) (2)) (k : Nat) (hB : Bk L sh_AuntsPuzzleModel k) (r65 : Int32 → Int32 → Int32 → Sg → Rs) (hr65 : ∀ (x1 : Int32) (x3 : Int32) (x4 : Int32) (σ : Sg), r65 x1 x3 x4 σ = some o → Vx q E L 5 (some .int) o 65 [(0, .ref (E.2.1 (k))), (1, .int x1), (3, .int x3), (4, .int x4)] [] σ) (x1 : Int32) (x4 : Int32) (t0 : Int32) (σ : Sg) (hf : f_X11_person_b100 k r65 x1 x4 t0 σ = some o) : Vx q E L 5 (some .int) o 100 [(0, .ref (E.2.1 (k))), (1, .int x1), (4, .int x4)] [.int t0] σ := by
  unfold f_X11_person_b100 at hf
  refine v_iconst (v := 0) 100 C dX11_person_100 (by decide) ?_
  exact Vx.lv [0, 1, 2] rfl (k_X11_person_b101 C k hB r65 hr65 x1 x4 t0 0 σ hf)
def f_X11_person_b65 (k : Nat)  : Nat → Int32 → Int32 → Int32 → Sg → Rs
  | 0, _, _, _, _ => none
  | n + 1, x1, x3, x4, σ => p_call (f_X11_cells k σ) (fun v1 s2 => if v1 ≤ x4 then (some (x3, s2)) else (p_rd s2 (k + 5) 16 x4 (fun v3 => if v3 < 0 then (f_X11_person_b100 k (f_X11_person_b65 k n) x1 x4 x3 s2) else (p_rd s2 (k + 7) 16 x4 (fun v4 => if v4 = x1 then (f_X11_person_b101 k (f_X11_person_b65 k n) x1 x4 x3 1 s2) else (f_X11_person_b100 k (f_X11_person_b65 k n) x1 x4 x3 s2))))))
set_option maxRecDepth 100000 in
set_option maxHeartbeats 4000000 in
theorem k_X11_person_b65 {q : Mc} {E : En} {L : List Nat} {o : Int32 × Sg} (C : Cx q E L cX11_person 5 RX11 (some .int) (2)) (k : Nat) (hB : Bk L sh_AuntsPuzzleModel k) (n : Nat) : ∀ (x1 : Int32) (x3 : Int32) (x4 : Int32) (σ : Sg), f_X11_person_b65 k n x1 x3 x4 σ = some o → Vx q E L 5 (some .int) o 65 [(0, .ref (E.2.1 (k))), (1, .int x1), (3, .int x3), (4, .int x4)] [] σ := by
  induction n with
  | zero => intro x1 x3 x4 σ hf; cases (show (none : Rs) = some o from hf)
  | succ n ih =>
    intro x1 x3 x4 σ hf
    rw [f_X11_person_b65] at hf
    refine v_iload 65 C dX11_person_65 rfl ?_
    refine v_aload_n 67 C dX11_person_67 rfl rfl ?_
    refine v_callV (st := [.int x4]) 68 C [] lm_X11_91 ly_X11_cells (hB 0 _ rfl) (by decide) dX11_person_68 rfl (by decide) rfl (Nat.le_of_ble_eq_true rfl) (fun o1 h1 => m_X11_cells k hB  σ o1 h1) hf (fun v1 s2 hf => ?_)
    refine v_icmp_ge (tgt := 109) 71 C dX11_person_71 (by decide) hf (fun hf => ?_) (fun hf => ?_)
    · refine v_iload_n 109 C dX11_person_109 rfl rfl ?_
      exact v_iret 110 C rfl dX11_person_110 hf
    · refine v_iload_n 74 C dX11_person_74 rfl rfl ?_
      refine v_aload_n 75 C dX11_person_75 rfl rfl ?_
      refine v_getR 76 C lk_X11_22 (hB 0 _ rfl) (by decide) rfl dX11_person_76 ?_
      refine v_iload 79 C dX11_person_79 rfl ?_
      refine v_iald 81 C (hB 5 _ rfl) dX11_person_81 hf (fun v3 hf => ?_)
      refine v_if_lt (tgt := 100) 82 C dX11_person_82 (by decide) hf (fun hf => ?_) (fun hf => ?_)
      · exact Vx.lv [0, 1, 3] rfl (k_X11_person_b100 C k hB (f_X11_person_b65 k n) ih x1 x4 x3 s2 hf)
      · refine v_aload_n 85 C dX11_person_85 rfl rfl ?_
        refine v_getR 86 C lk_X11_28 (hB 0 _ rfl) (by decide) rfl dX11_person_86 ?_
        refine v_iload 89 C dX11_person_89 rfl ?_
        refine v_iald 91 C (hB 7 _ rfl) dX11_person_91 hf (fun v4 hf => ?_)
        refine v_iload_n 92 C dX11_person_92 rfl rfl ?_
        refine v_icmp_ne (tgt := 100) 93 C dX11_person_93 (by decide) hf (fun hf => ?_) (fun hf => ?_)
        · exact Vx.lv [0, 1, 3] rfl (k_X11_person_b100 C k hB (f_X11_person_b65 k n) ih x1 x4 x3 s2 hf)
        · refine v_iconst (v := 1) 96 C dX11_person_96 (by decide) ?_
          refine v_goto (tgt := 101) 97 C dX11_person_97 (by decide) ?_
          exact Vx.lv [0, 1, 3] rfl (k_X11_person_b101 C k hB (f_X11_person_b65 k n) ih x1 x4 x3 1 s2 hf)
def f_X11_person (k : Nat) (x1 : Int32) (x2 : Int32) (σ : Sg) : Rs := p_call (f_X11_isPerson k x1 σ) (fun v1 s2 => if v1 = 0 then (p_call (f_X11_no k (-1) s2) (fun v8 s9 => some (v8, s9))) else (if x2 = 0 then (p_rd s2 (k + 9) 6 x1 (fun v3 => some (v3, s2))) else (if x2 = 1 then (p_rd s2 (k + 10) 6 x1 (fun v4 => some (v4, s2))) else (if x2 = 2 then (f_X11_person_b65 k fu x1 0 0 s2) else (if x2 = 3 then (p_rd s2 (k + 11) 6 x1 (fun v5 => some (v5, s2))) else (p_call (f_X11_no k (-2) s2) (fun v6 s7 => some (v6, s7))))))))
set_option maxRecDepth 100000 in
set_option maxHeartbeats 4000000 in
theorem k_X11_person_b0 {q : Mc} {E : En} {L : List Nat} {o : Int32 × Sg} (C : Cx q E L cX11_person 5 RX11 (some .int) (2)) (k : Nat) (hB : Bk L sh_AuntsPuzzleModel k) (x1 : Int32) (x2 : Int32) (σ : Sg) (hf : f_X11_person k x1 x2 σ = some o) : Vx q E L 5 (some .int) o 0 [(0, .ref (E.2.1 (k))), (1, .int x1), (2, .int x2)] [] σ := by
  unfold f_X11_person at hf
  refine v_aload_n 0 C dX11_person_0 rfl rfl ?_
  refine v_iload_n 1 C dX11_person_1 rfl rfl ?_
  refine v_callV (st := []) 2 C [.int x1] lm_X11_196 ly_X11_isPerson (hB 0 _ rfl) (by decide) dX11_person_2 rfl (by decide) rfl (Nat.le_of_ble_eq_true rfl) (fun o1 h1 => m_X11_isPerson k hB x1 σ o1 h1) hf (fun v1 s2 hf => ?_)
  refine v_if_ne (tgt := 14) 5 C dX11_person_5 (by decide) hf (fun hf => ?_) (fun hf => ?_)
  · refine v_iconst (v := 0) 14 C dX11_person_14 (by decide) ?_
    refine v_istore_n (lv' := [(0, .ref (E.2.1 (k))), (1, .int x1), (2, .int x2), (3, .int 0)]) 15 C dX11_person_15 rfl (by decide) rfl rfl ?_
    refine v_iload_n 16 C dX11_person_16 rfl rfl ?_
    refine v_case (v := 0) hf (fun hx hf => ?_) (fun hn0 hf => ?_)
    · refine v_tabIn (tgt := 48) 17 C hx dX11_person_17 (by decide) rfl (by decide) ?_
      refine v_aload_n 48 C dX11_person_48 rfl rfl ?_
      refine v_getR 49 C lk_X11_34 (hB 0 _ rfl) (by decide) rfl dX11_person_49 ?_
      refine v_iload_n 52 C dX11_person_52 rfl rfl ?_
      refine v_iald 53 C (hB 9 _ rfl) dX11_person_53 hf (fun v3 hf => ?_)
      exact v_iret 54 C rfl dX11_person_54 hf
    refine v_case (v := 1) hf (fun hx hf => ?_) (fun hn1 hf => ?_)
    · refine v_tabIn (tgt := 55) 17 C hx dX11_person_17 (by decide) rfl (by decide) ?_
      refine v_aload_n 55 C dX11_person_55 rfl rfl ?_
      refine v_getR 56 C lk_X11_37 (hB 0 _ rfl) (by decide) rfl dX11_person_56 ?_
      refine v_iload_n 59 C dX11_person_59 rfl rfl ?_
      refine v_iald 60 C (hB 10 _ rfl) dX11_person_60 hf (fun v4 hf => ?_)
      exact v_iret 61 C rfl dX11_person_61 hf
    refine v_case (v := 2) hf (fun hx hf => ?_) (fun hn2 hf => ?_)
    · refine v_tabIn (tgt := 62) 17 C hx dX11_person_17 (by decide) rfl (by decide) ?_
      refine v_iconst (v := 0) 62 C dX11_person_62 (by decide) ?_
      refine v_istore (lv' := [(0, .ref (E.2.1 (k))), (1, .int x1), (2, .int x2), (3, .int 0), (4, .int 0)]) 63 C dX11_person_63 (by decide) rfl rfl ?_
      exact Vx.lv [0, 1, 3, 4] rfl (k_X11_person_b65 C k hB fu x1 0 0 s2 hf)
    refine v_case (v := 3) hf (fun hx hf => ?_) (fun hn3 hf => ?_)
    · refine v_tabIn (tgt := 111) 17 C hx dX11_person_17 (by decide) rfl (by decide) ?_
      refine v_aload_n 111 C dX11_person_111 rfl rfl ?_
      refine v_getR 112 C lk_X11_40 (hB 0 _ rfl) (by decide) rfl dX11_person_112 ?_
      refine v_iload_n 115 C dX11_person_115 rfl rfl ?_
      refine v_iald 116 C (hB 11 _ rfl) dX11_person_116 hf (fun v5 hf => ?_)
      exact v_iret 117 C rfl dX11_person_117 hf
    refine v_tabOut (tgt := 118) 17 C dX11_person_17 (by have g0 := lv_neT hn0 (show (0 : Int32).toInt = 0 from rfl); have g1 := lv_neT hn1 (show (1 : Int32).toInt = 1 from rfl); have g2 := lv_neT hn2 (show (2 : Int32).toInt = 2 from rfl); have g3 := lv_neT hn3 (show (3 : Int32).toInt = 3 from rfl); omega) (by decide) ?_
    refine v_aload_n 118 C dX11_person_118 rfl rfl ?_
    refine v_bipush (v := (-2)) 119 C dX11_person_119 (by decide) ?_
    refine v_callV (st := []) 121 C [.int (-2)] lm_X11_112 ly_X11_no (hB 0 _ rfl) (by decide) dX11_person_121 rfl (by decide) rfl (Nat.le_of_ble_eq_true rfl) (fun o1 h1 => m_X11_no k hB (-2) s2 o1 h1) hf (fun v6 s7 hf => ?_)
    exact v_iret 124 C rfl dX11_person_124 hf
  · refine v_aload_n 8 C dX11_person_8 rfl rfl ?_
    refine v_iconst (v := (-1)) 9 C dX11_person_9 (by decide) ?_
    refine v_callV (st := []) 10 C [.int (-1)] lm_X11_112 ly_X11_no (hB 0 _ rfl) (by decide) dX11_person_10 rfl (by decide) rfl (Nat.le_of_ble_eq_true rfl) (fun o1 h1 => m_X11_no k hB (-1) s2 o1 h1) hf (fun v8 s9 hf => ?_)
    exact v_iret 13 C rfl dX11_person_13 hf
theorem m_X11_person {l : Launch} {E : En} {L : List Nat} (k : Nat) (hB : Bk L sh_AuntsPuzzleModel k) (x1 : Int32) (x2 : Int32) (σ : Sg) (o : Int32 × Sg) (hf : f_X11_person k x1 x2 σ = some o) : Mi l yX11_person cX11_person 5 (some .int) (2) E L [.ref (E.2.1 (k)), .int x1, .int x2] σ o :=
  Mi.of RX11 rfl (by decide) (Nat.le_of_ble_eq_true rfl) (fun q hq C => by subst hq; exact k_X11_person_b0 C k hB x1 x2 σ hf)
def f_X11_laid (k : Nat) (x1 : Int32) (x2 : Int32) (σ : Sg) : Rs := p_call (f_X11_isCell k x1 σ) (fun v1 s2 => if v1 = 0 then (p_call (f_X11_no k (-1) s2) (fun v11 s12 => some (v11, s12))) else (p_call (f_X11_isIn x2 0 2 s2) (fun v3 s4 => if v3 = 0 then (p_call (f_X11_no k (-2) s4) (fun v9 s10 => some (v9, s10))) else (p_rd s4 (k + 5) 16 x1 (fun v5 => if 0 ≤ v5 then (if x2 = 0 then (p_rd s4 (k + 5) 16 x1 (fun v8 => some (v8, s4))) else (if x2 = 1 then (p_rd s4 (k + 6) 16 x1 (fun v7 => some (v7, s4))) else (p_rd s4 (k + 7) 16 x1 (fun v6 => some (v6, s4))))) else (some ((-9), s4)))))))
set_option maxRecDepth 100000 in
set_option maxHeartbeats 4000000 in
theorem k_X11_laid_b0 {q : Mc} {E : En} {L : List Nat} {o : Int32 × Sg} (C : Cx q E L cX11_laid 3 RX11 (some .int) (3)) (k : Nat) (hB : Bk L sh_AuntsPuzzleModel k) (x1 : Int32) (x2 : Int32) (σ : Sg) (hf : f_X11_laid k x1 x2 σ = some o) : Vx q E L 3 (some .int) o 0 [(0, .ref (E.2.1 (k))), (1, .int x1), (2, .int x2)] [] σ := by
  unfold f_X11_laid at hf
  refine v_aload_n 0 C dX11_laid_0 rfl rfl ?_
  refine v_iload_n 1 C dX11_laid_1 rfl rfl ?_
  refine v_callV (st := []) 2 C [.int x1] lm_X11_144 ly_X11_isCell (hB 0 _ rfl) (by decide) dX11_laid_2 rfl (by decide) rfl (Nat.le_of_ble_eq_true rfl) (fun o1 h1 => m_X11_isCell k hB x1 σ o1 h1) hf (fun v1 s2 hf => ?_)
  refine v_if_ne (tgt := 14) 5 C dX11_laid_5 (by decide) hf (fun hf => ?_) (fun hf => ?_)
  · refine v_iload_n 14 C dX11_laid_14 rfl rfl ?_
    refine v_iconst (v := 0) 15 C dX11_laid_15 (by decide) ?_
    refine v_iconst (v := 2) 16 C dX11_laid_16 (by decide) ?_
    refine v_callS (st := []) 17 C [.int x2, .int 0, .int 2] lm_X11_124 lz_X11_isIn dX11_laid_17 rfl (by decide) rfl (Nat.le_of_ble_eq_true rfl) (fun o1 h1 => m_X11_isIn   x2 0 2 s2 o1 h1) hf (fun v3 s4 hf => ?_)
    refine v_if_ne (tgt := 30) 20 C dX11_laid_20 (by decide) hf (fun hf => ?_) (fun hf => ?_)
    · refine v_aload_n 30 C dX11_laid_30 rfl rfl ?_
      refine v_getR 31 C lk_X11_22 (hB 0 _ rfl) (by decide) rfl dX11_laid_31 ?_
      refine v_iload_n 34 C dX11_laid_34 rfl rfl ?_
      refine v_iald 35 C (hB 5 _ rfl) dX11_laid_35 hf (fun v5 hf => ?_)
      refine v_if_ge (tgt := 44) 36 C dX11_laid_36 (by decide) hf (fun hf => ?_) (fun hf => ?_)
      · refine v_iload_n 44 C dX11_laid_44 rfl rfl ?_
        refine v_if_ne (tgt := 57) 45 C dX11_laid_45 (by decide) hf (fun hf => ?_) (fun hf => ?_)
        · refine v_iload_n 57 C dX11_laid_57 rfl rfl ?_
          refine v_iconst (v := 1) 58 C dX11_laid_58 (by decide) ?_
          refine v_icmp_ne (tgt := 71) 59 C dX11_laid_59 (by decide) hf (fun hf => ?_) (fun hf => ?_)
          · refine v_aload_n 71 C dX11_laid_71 rfl rfl ?_
            refine v_getR 72 C lk_X11_28 (hB 0 _ rfl) (by decide) rfl dX11_laid_72 ?_
            refine v_iload_n 75 C dX11_laid_75 rfl rfl ?_
            refine v_iald 76 C (hB 7 _ rfl) dX11_laid_76 hf (fun v6 hf => ?_)
            exact v_iret 77 C rfl dX11_laid_77 hf
          · refine v_aload_n 62 C dX11_laid_62 rfl rfl ?_
            refine v_getR 63 C lk_X11_25 (hB 0 _ rfl) (by decide) rfl dX11_laid_63 ?_
            refine v_iload_n 66 C dX11_laid_66 rfl rfl ?_
            refine v_iald 67 C (hB 6 _ rfl) dX11_laid_67 hf (fun v7 hf => ?_)
            refine v_goto (tgt := 77) 68 C dX11_laid_68 (by decide) ?_
            exact v_iret 77 C rfl dX11_laid_77 hf
        · refine v_aload_n 48 C dX11_laid_48 rfl rfl ?_
          refine v_getR 49 C lk_X11_22 (hB 0 _ rfl) (by decide) rfl dX11_laid_49 ?_
          refine v_iload_n 52 C dX11_laid_52 rfl rfl ?_
          refine v_iald 53 C (hB 5 _ rfl) dX11_laid_53 hf (fun v8 hf => ?_)
          refine v_goto (tgt := 77) 54 C dX11_laid_54 (by decide) ?_
          exact v_iret 77 C rfl dX11_laid_77 hf
      · refine v_bipush (v := (-9)) 39 C dX11_laid_39 (by decide) ?_
        refine v_goto (tgt := 77) 41 C dX11_laid_41 (by decide) ?_
        exact v_iret 77 C rfl dX11_laid_77 hf
    · refine v_aload_n 23 C dX11_laid_23 rfl rfl ?_
      refine v_bipush (v := (-2)) 24 C dX11_laid_24 (by decide) ?_
      refine v_callV (st := []) 26 C [.int (-2)] lm_X11_112 ly_X11_no (hB 0 _ rfl) (by decide) dX11_laid_26 rfl (by decide) rfl (Nat.le_of_ble_eq_true rfl) (fun o1 h1 => m_X11_no k hB (-2) s4 o1 h1) hf (fun v9 s10 hf => ?_)
      exact v_iret 29 C rfl dX11_laid_29 hf
  · refine v_aload_n 8 C dX11_laid_8 rfl rfl ?_
    refine v_iconst (v := (-1)) 9 C dX11_laid_9 (by decide) ?_
    refine v_callV (st := []) 10 C [.int (-1)] lm_X11_112 ly_X11_no (hB 0 _ rfl) (by decide) dX11_laid_10 rfl (by decide) rfl (Nat.le_of_ble_eq_true rfl) (fun o1 h1 => m_X11_no k hB (-1) s2 o1 h1) hf (fun v11 s12 hf => ?_)
    exact v_iret 13 C rfl dX11_laid_13 hf
theorem m_X11_laid {l : Launch} {E : En} {L : List Nat} (k : Nat) (hB : Bk L sh_AuntsPuzzleModel k) (x1 : Int32) (x2 : Int32) (σ : Sg) (o : Int32 × Sg) (hf : f_X11_laid k x1 x2 σ = some o) : Mi l yX11_laid cX11_laid 3 (some .int) (3) E L [.ref (E.2.1 (k)), .int x1, .int x2] σ o :=
  Mi.of RX11 rfl (by decide) (Nat.le_of_ble_eq_true rfl) (fun q hq C => by subst hq; exact k_X11_laid_b0 C k hB x1 x2 σ hf)
def f_X11_fits_b16 (k : Nat) (σ : Sg) : Rs := p_call (f_X11_no k (-1) σ) (fun v1 s2 => some (v1, s2))
set_option maxRecDepth 100000 in
set_option maxHeartbeats 4000000 in
theorem k_X11_fits_b16 {q : Mc} {E : En} {L : List Nat} {o : Int32 × Sg} (C : Cx q E L cX11_fits 4 RX11 (some .int) (7)) (k : Nat) (hB : Bk L sh_AuntsPuzzleModel k) (σ : Sg) (hf : f_X11_fits_b16 k σ = some o) : Vx q E L 4 (some .int) o 16 [(0, .ref (E.2.1 (k)))] [] σ := by
  unfold f_X11_fits_b16 at hf
  refine v_aload_n 16 C dX11_fits_16 rfl rfl ?_
  refine v_iconst (v := (-1)) 17 C dX11_fits_17 (by decide) ?_
  refine v_callV (st := []) 18 C [.int (-1)] lm_X11_112 ly_X11_no (hB 0 _ rfl) (by decide) dX11_fits_18 rfl (by decide) rfl (Nat.le_of_ble_eq_true rfl) (fun o1 h1 => m_X11_no k hB (-1) σ o1 h1) hf (fun v1 s2 hf => ?_)
  exact v_iret 21 C rfl dX11_fits_21 hf
def f_X11_fits (k : Nat) (x1 : Int32) (x2 : Int32) (x3 : Int32) (σ : Sg) : Rs := p_call (f_X11_isCell k x1 σ) (fun v1 s2 => if v1 = 0 then (f_X11_fits_b16 k s2) else (p_call (f_X11_isCell k x3 s2) (fun v3 s4 => if v3 = 0 then (f_X11_fits_b16 k s4) else (p_call (f_X11_isIn x2 0 3 s4) (fun v5 s6 => if v5 = 0 then (p_call (f_X11_no k (-2) s6) (fun v9 s10 => some (v9, s10))) else (p_call (f_X11_doesFit k x1 x2 x3 s6) (fun v7 s8 => if v7 = 0 then (some (0, s8)) else (some (1, s8)))))))))
set_option maxRecDepth 100000 in
set_option maxHeartbeats 4000000 in
theorem k_X11_fits_b0 {q : Mc} {E : En} {L : List Nat} {o : Int32 × Sg} (C : Cx q E L cX11_fits 4 RX11 (some .int) (7)) (k : Nat) (hB : Bk L sh_AuntsPuzzleModel k) (x1 : Int32) (x2 : Int32) (x3 : Int32) (σ : Sg) (hf : f_X11_fits k x1 x2 x3 σ = some o) : Vx q E L 4 (some .int) o 0 [(0, .ref (E.2.1 (k))), (1, .int x1), (2, .int x2), (3, .int x3)] [] σ := by
  unfold f_X11_fits at hf
  refine v_aload_n 0 C dX11_fits_0 rfl rfl ?_
  refine v_iload_n 1 C dX11_fits_1 rfl rfl ?_
  refine v_callV (st := []) 2 C [.int x1] lm_X11_144 ly_X11_isCell (hB 0 _ rfl) (by decide) dX11_fits_2 rfl (by decide) rfl (Nat.le_of_ble_eq_true rfl) (fun o1 h1 => m_X11_isCell k hB x1 σ o1 h1) hf (fun v1 s2 hf => ?_)
  refine v_if_eq (tgt := 16) 5 C dX11_fits_5 (by decide) hf (fun hf => ?_) (fun hf => ?_)
  · exact Vx.lv [0] rfl (k_X11_fits_b16 C k hB s2 hf)
  · refine v_aload_n 8 C dX11_fits_8 rfl rfl ?_
    refine v_iload_n 9 C dX11_fits_9 rfl rfl ?_
    refine v_callV (st := []) 10 C [.int x3] lm_X11_144 ly_X11_isCell (hB 0 _ rfl) (by decide) dX11_fits_10 rfl (by decide) rfl (Nat.le_of_ble_eq_true rfl) (fun o1 h1 => m_X11_isCell k hB x3 s2 o1 h1) hf (fun v3 s4 hf => ?_)
    refine v_if_ne (tgt := 22) 13 C dX11_fits_13 (by decide) hf (fun hf => ?_) (fun hf => ?_)
    · refine v_iload_n 22 C dX11_fits_22 rfl rfl ?_
      refine v_iconst (v := 0) 23 C dX11_fits_23 (by decide) ?_
      refine v_iconst (v := 3) 24 C dX11_fits_24 (by decide) ?_
      refine v_callS (st := []) 25 C [.int x2, .int 0, .int 3] lm_X11_124 lz_X11_isIn dX11_fits_25 rfl (by decide) rfl (Nat.le_of_ble_eq_true rfl) (fun o1 h1 => m_X11_isIn   x2 0 3 s4 o1 h1) hf (fun v5 s6 hf => ?_)
      refine v_if_ne (tgt := 38) 28 C dX11_fits_28 (by decide) hf (fun hf => ?_) (fun hf => ?_)
      · refine v_aload_n 38 C dX11_fits_38 rfl rfl ?_
        refine v_iload_n 39 C dX11_fits_39 rfl rfl ?_
        refine v_iload_n 40 C dX11_fits_40 rfl rfl ?_
        refine v_iload_n 41 C dX11_fits_41 rfl rfl ?_
        refine v_callV (st := []) 42 C [.int x1, .int x2, .int x3] lm_X11_181 ly_X11_doesFit (hB 0 _ rfl) (by decide) dX11_fits_42 rfl (by decide) rfl (Nat.le_of_ble_eq_true rfl) (fun o1 h1 => m_X11_doesFit k hB x1 x2 x3 s6 o1 h1) hf (fun v7 s8 hf => ?_)
        refine v_if_eq (tgt := 52) 45 C dX11_fits_45 (by decide) hf (fun hf => ?_) (fun hf => ?_)
        · refine v_iconst (v := 0) 52 C dX11_fits_52 (by decide) ?_
          exact v_iret 53 C rfl dX11_fits_53 hf
        · refine v_iconst (v := 1) 48 C dX11_fits_48 (by decide) ?_
          refine v_goto (tgt := 53) 49 C dX11_fits_49 (by decide) ?_
          exact v_iret 53 C rfl dX11_fits_53 hf
      · refine v_aload_n 31 C dX11_fits_31 rfl rfl ?_
        refine v_bipush (v := (-2)) 32 C dX11_fits_32 (by decide) ?_
        refine v_callV (st := []) 34 C [.int (-2)] lm_X11_112 ly_X11_no (hB 0 _ rfl) (by decide) dX11_fits_34 rfl (by decide) rfl (Nat.le_of_ble_eq_true rfl) (fun o1 h1 => m_X11_no k hB (-2) s6 o1 h1) hf (fun v9 s10 hf => ?_)
        exact v_iret 37 C rfl dX11_fits_37 hf
    · exact Vx.lv [0] rfl (k_X11_fits_b16 C k hB s4 hf)
theorem m_X11_fits {l : Launch} {E : En} {L : List Nat} (k : Nat) (hB : Bk L sh_AuntsPuzzleModel k) (x1 : Int32) (x2 : Int32) (x3 : Int32) (σ : Sg) (o : Int32 × Sg) (hf : f_X11_fits k x1 x2 x3 σ = some o) : Mi l yX11_fits cX11_fits 4 (some .int) (7) E L [.ref (E.2.1 (k)), .int x1, .int x2, .int x3] σ o :=
  Mi.of RX11 rfl (by decide) (Nat.le_of_ble_eq_true rfl) (fun q hq C => by subst hq; exact k_X11_fits_b0 C k hB x1 x2 x3 σ hf)
def f_X11_seconds_b25 (k : Nat) (σ : Sg) : Rs := p_call (f_X11_no k (-1) σ) (fun v1 s2 => some (v1, s2))
set_option maxRecDepth 100000 in
set_option maxHeartbeats 4000000 in
theorem k_X11_seconds_b25 {q : Mc} {E : En} {L : List Nat} {o : Int32 × Sg} (C : Cx q E L cX11_seconds 5 RX11 (some .int) (9)) (k : Nat) (hB : Bk L sh_AuntsPuzzleModel k) (σ : Sg) (hf : f_X11_seconds_b25 k σ = some o) : Vx q E L 5 (some .int) o 25 [(0, .ref (E.2.1 (k)))] [] σ := by
  unfold f_X11_seconds_b25 at hf
  refine v_aload_n 25 C dX11_seconds_25 rfl rfl ?_
  refine v_iconst (v := (-1)) 26 C dX11_seconds_26 (by decide) ?_
  refine v_callV (st := []) 27 C [.int (-1)] lm_X11_112 ly_X11_no (hB 0 _ rfl) (by decide) dX11_seconds_27 rfl (by decide) rfl (Nat.le_of_ble_eq_true rfl) (fun o1 h1 => m_X11_no k hB (-1) σ o1 h1) hf (fun v1 s2 hf => ?_)
  exact v_iret 30 C rfl dX11_seconds_30 hf
def f_X11_seconds (k : Nat) (x1 : Int32) (x2 : Int32) (x3 : Int32) (x4 : Int32) (σ : Sg) : Rs := p_call (f_X11_isPerson k x1 σ) (fun v1 s2 => if v1 = 0 then (f_X11_seconds_b25 k s2) else (p_call (f_X11_isCell k x2 s2) (fun v3 s4 => if v3 = 0 then (f_X11_seconds_b25 k s4) else (p_call (f_X11_isCell k x4 s4) (fun v5 s6 => if v5 = 0 then (f_X11_seconds_b25 k s6) else (p_call (f_X11_isIn x3 0 3 s6) (fun v7 s8 => if v7 = 0 then (p_call (f_X11_no k (-2) s8) (fun v14 s15 => some (v14, s15))) else (p_rd s8 (k + 5) 16 x4 (fun v9 => if v9 < 0 then (p_call (f_X11_secondsOf k x1 x2 x3 x4 s8) (fun v10 s11 => some (v10, s11))) else (p_call (f_X11_no k (-3) s8) (fun v12 s13 => some (v12, s13))))))))))))
set_option maxRecDepth 100000 in
set_option maxHeartbeats 4000000 in
theorem k_X11_seconds_b0 {q : Mc} {E : En} {L : List Nat} {o : Int32 × Sg} (C : Cx q E L cX11_seconds 5 RX11 (some .int) (9)) (k : Nat) (hB : Bk L sh_AuntsPuzzleModel k) (x1 : Int32) (x2 : Int32) (x3 : Int32) (x4 : Int32) (σ : Sg) (hf : f_X11_seconds k x1 x2 x3 x4 σ = some o) : Vx q E L 5 (some .int) o 0 [(0, .ref (E.2.1 (k))), (1, .int x1), (2, .int x2), (3, .int x3), (4, .int x4)] [] σ := by
  unfold f_X11_seconds at hf
  refine v_aload_n 0 C dX11_seconds_0 rfl rfl ?_
  refine v_iload_n 1 C dX11_seconds_1 rfl rfl ?_
  refine v_callV (st := []) 2 C [.int x1] lm_X11_196 ly_X11_isPerson (hB 0 _ rfl) (by decide) dX11_seconds_2 rfl (by decide) rfl (Nat.le_of_ble_eq_true rfl) (fun o1 h1 => m_X11_isPerson k hB x1 σ o1 h1) hf (fun v1 s2 hf => ?_)
  refine v_if_eq (tgt := 25) 5 C dX11_seconds_5 (by decide) hf (fun hf => ?_) (fun hf => ?_)
  · exact Vx.lv [0] rfl (k_X11_seconds_b25 C k hB s2 hf)
  · refine v_aload_n 8 C dX11_seconds_8 rfl rfl ?_
    refine v_iload_n 9 C dX11_seconds_9 rfl rfl ?_
    refine v_callV (st := []) 10 C [.int x2] lm_X11_144 ly_X11_isCell (hB 0 _ rfl) (by decide) dX11_seconds_10 rfl (by decide) rfl (Nat.le_of_ble_eq_true rfl) (fun o1 h1 => m_X11_isCell k hB x2 s2 o1 h1) hf (fun v3 s4 hf => ?_)
    refine v_if_eq (tgt := 25) 13 C dX11_seconds_13 (by decide) hf (fun hf => ?_) (fun hf => ?_)
    · exact Vx.lv [0] rfl (k_X11_seconds_b25 C k hB s4 hf)
    · refine v_aload_n 16 C dX11_seconds_16 rfl rfl ?_
      refine v_iload 17 C dX11_seconds_17 rfl ?_
      refine v_callV (st := []) 19 C [.int x4] lm_X11_144 ly_X11_isCell (hB 0 _ rfl) (by decide) dX11_seconds_19 rfl (by decide) rfl (Nat.le_of_ble_eq_true rfl) (fun o1 h1 => m_X11_isCell k hB x4 s4 o1 h1) hf (fun v5 s6 hf => ?_)
      refine v_if_ne (tgt := 31) 22 C dX11_seconds_22 (by decide) hf (fun hf => ?_) (fun hf => ?_)
      · refine v_iload_n 31 C dX11_seconds_31 rfl rfl ?_
        refine v_iconst (v := 0) 32 C dX11_seconds_32 (by decide) ?_
        refine v_iconst (v := 3) 33 C dX11_seconds_33 (by decide) ?_
        refine v_callS (st := []) 34 C [.int x3, .int 0, .int 3] lm_X11_124 lz_X11_isIn dX11_seconds_34 rfl (by decide) rfl (Nat.le_of_ble_eq_true rfl) (fun o1 h1 => m_X11_isIn   x3 0 3 s6 o1 h1) hf (fun v7 s8 hf => ?_)
        refine v_if_ne (tgt := 47) 37 C dX11_seconds_37 (by decide) hf (fun hf => ?_) (fun hf => ?_)
        · refine v_aload_n 47 C dX11_seconds_47 rfl rfl ?_
          refine v_getR 48 C lk_X11_22 (hB 0 _ rfl) (by decide) rfl dX11_seconds_48 ?_
          refine v_iload 51 C dX11_seconds_51 rfl ?_
          refine v_iald 53 C (hB 5 _ rfl) dX11_seconds_53 hf (fun v9 hf => ?_)
          refine v_if_lt (tgt := 66) 54 C dX11_seconds_54 (by decide) hf (fun hf => ?_) (fun hf => ?_)
          · refine v_aload_n 66 C dX11_seconds_66 rfl rfl ?_
            refine v_iload_n 67 C dX11_seconds_67 rfl rfl ?_
            refine v_iload_n 68 C dX11_seconds_68 rfl rfl ?_
            refine v_iload_n 69 C dX11_seconds_69 rfl rfl ?_
            refine v_iload 70 C dX11_seconds_70 rfl ?_
            refine v_callV (st := []) 72 C [.int x1, .int x2, .int x3, .int x4] lm_X11_199 ly_X11_secondsOf (hB 0 _ rfl) (by decide) dX11_seconds_72 rfl (by decide) rfl (Nat.le_of_ble_eq_true rfl) (fun o1 h1 => m_X11_secondsOf k hB x1 x2 x3 x4 s8 o1 h1) hf (fun v10 s11 hf => ?_)
            exact v_iret 75 C rfl dX11_seconds_75 hf
          · refine v_aload_n 57 C dX11_seconds_57 rfl rfl ?_
            refine v_bipush (v := (-3)) 58 C dX11_seconds_58 (by decide) ?_
            refine v_callV (st := []) 60 C [.int (-3)] lm_X11_112 ly_X11_no (hB 0 _ rfl) (by decide) dX11_seconds_60 rfl (by decide) rfl (Nat.le_of_ble_eq_true rfl) (fun o1 h1 => m_X11_no k hB (-3) s8 o1 h1) hf (fun v12 s13 hf => ?_)
            refine v_goto (tgt := 75) 63 C dX11_seconds_63 (by decide) ?_
            exact v_iret 75 C rfl dX11_seconds_75 hf
        · refine v_aload_n 40 C dX11_seconds_40 rfl rfl ?_
          refine v_bipush (v := (-2)) 41 C dX11_seconds_41 (by decide) ?_
          refine v_callV (st := []) 43 C [.int (-2)] lm_X11_112 ly_X11_no (hB 0 _ rfl) (by decide) dX11_seconds_43 rfl (by decide) rfl (Nat.le_of_ble_eq_true rfl) (fun o1 h1 => m_X11_no k hB (-2) s8 o1 h1) hf (fun v14 s15 hf => ?_)
          exact v_iret 46 C rfl dX11_seconds_46 hf
      · exact Vx.lv [0] rfl (k_X11_seconds_b25 C k hB s6 hf)
theorem m_X11_seconds {l : Launch} {E : En} {L : List Nat} (k : Nat) (hB : Bk L sh_AuntsPuzzleModel k) (x1 : Int32) (x2 : Int32) (x3 : Int32) (x4 : Int32) (σ : Sg) (o : Int32 × Sg) (hf : f_X11_seconds k x1 x2 x3 x4 σ = some o) : Mi l yX11_seconds cX11_seconds 5 (some .int) (9) E L [.ref (E.2.1 (k)), .int x1, .int x2, .int x3, .int x4] σ o :=
  Mi.of RX11 rfl (by decide) (Nat.le_of_ble_eq_true rfl) (fun q hq C => by subst hq; exact k_X11_seconds_b0 C k hB x1 x2 x3 x4 σ hf)
def f_X11_tries_b50 (k : Nat) (x1 : Int32) (x2 : Int32) (x3 : Int32) (x4 : Int32) (x5 : Int32) (σ : Sg) : Rs := p_wr σ (k + 5) 16 x4 x2 (fun s1 => p_wr s1 (k + 6) 16 x4 x3 (fun s2 => p_wr s2 (k + 7) 16 x4 x1 (fun s3 => some (x5, s3))))
set_option maxRecDepth 100000 in
set_option maxHeartbeats 4000000 in
theorem k_X11_tries_b50 {q : Mc} {E : En} {L : List Nat} {o : Int32 × Sg} (C : Cx q E L cX11_tries 6 RX11 (some .int) (9)) (k : Nat) (hB : Bk L sh_AuntsPuzzleModel k) (x1 : Int32) (x2 : Int32) (x3 : Int32) (x4 : Int32) (x5 : Int32) (σ : Sg) (hf : f_X11_tries_b50 k x1 x2 x3 x4 x5 σ = some o) : Vx q E L 6 (some .int) o 50 [(0, .ref (E.2.1 (k))), (1, .int x1), (2, .int x2), (3, .int x3), (4, .int x4), (5, .int x5)] [] σ := by
  unfold f_X11_tries_b50 at hf
  refine v_aload_n 50 C dX11_tries_50 rfl rfl ?_
  refine v_getR 51 C lk_X11_22 (hB 0 _ rfl) (by decide) rfl dX11_tries_51 ?_
  refine v_iload 54 C dX11_tries_54 rfl ?_
  refine v_iload_n 56 C dX11_tries_56 rfl rfl ?_
  refine v_iast 57 C (hB 5 _ rfl) dX11_tries_57 hf (fun s1 hf => ?_)
  refine v_aload_n 58 C dX11_tries_58 rfl rfl ?_
  refine v_getR 59 C lk_X11_25 (hB 0 _ rfl) (by decide) rfl dX11_tries_59 ?_
  refine v_iload 62 C dX11_tries_62 rfl ?_
  refine v_iload_n 64 C dX11_tries_64 rfl rfl ?_
  refine v_iast 65 C (hB 6 _ rfl) dX11_tries_65 hf (fun s2 hf => ?_)
  refine v_aload_n 66 C dX11_tries_66 rfl rfl ?_
  refine v_getR 67 C lk_X11_28 (hB 0 _ rfl) (by decide) rfl dX11_tries_67 ?_
  refine v_iload 70 C dX11_tries_70 rfl ?_
  refine v_iload_n 72 C dX11_tries_72 rfl rfl ?_
  refine v_iast 73 C (hB 7 _ rfl) dX11_tries_73 hf (fun s3 hf => ?_)
  refine v_iload 74 C dX11_tries_74 rfl ?_
  exact v_iret 76 C rfl dX11_tries_76 hf
def f_X11_tries (k : Nat) (x1 : Int32) (x2 : Int32) (x3 : Int32) (x4 : Int32) (σ : Sg) : Rs := p_call (f_X11_kindAt k x2 x3 x4 σ) (fun v1 s2 => p_rd s2 (k + 11) 6 x1 (fun v3 => p_call (f_X11_secondsOf k x1 x2 x3 x4 s2) (fun v4 s5 => p_wr s5 (k + 11) 6 x1 (v3 + v4) (fun s6 => p_put s6 (k) 14 ((s6 (k) 14) + 1) (fun s7 => if v1 = 1 then (f_X11_tries_b50 k x1 x2 x3 x4 v1 s7) else (if v1 = 2 then (f_X11_tries_b50 k x1 x2 x3 x4 v1 s7) else (some (v1, s7))))))))
set_option maxRecDepth 100000 in
set_option maxHeartbeats 4000000 in
theorem k_X11_tries_b0 {q : Mc} {E : En} {L : List Nat} {o : Int32 × Sg} (C : Cx q E L cX11_tries 6 RX11 (some .int) (9)) (k : Nat) (hB : Bk L sh_AuntsPuzzleModel k) (x1 : Int32) (x2 : Int32) (x3 : Int32) (x4 : Int32) (σ : Sg) (hf : f_X11_tries k x1 x2 x3 x4 σ = some o) : Vx q E L 6 (some .int) o 0 [(0, .ref (E.2.1 (k))), (1, .int x1), (2, .int x2), (3, .int x3), (4, .int x4)] [] σ := by
  unfold f_X11_tries at hf
  refine v_aload_n 0 C dX11_tries_0 rfl rfl ?_
  refine v_iload_n 1 C dX11_tries_1 rfl rfl ?_
  refine v_iload_n 2 C dX11_tries_2 rfl rfl ?_
  refine v_iload 3 C dX11_tries_3 rfl ?_
  refine v_callV (st := []) 5 C [.int x2, .int x3, .int x4] lm_X11_190 ly_X11_kindAt (hB 0 _ rfl) (by decide) dX11_tries_5 rfl (by decide) rfl (Nat.le_of_ble_eq_true rfl) (fun o1 h1 => m_X11_kindAt k hB x2 x3 x4 σ o1 h1) hf (fun v1 s2 hf => ?_)
  refine v_istore (lv' := [(0, .ref (E.2.1 (k))), (1, .int x1), (2, .int x2), (3, .int x3), (4, .int x4), (5, .int v1)]) 8 C dX11_tries_8 (by decide) rfl rfl ?_
  refine v_aload_n 10 C dX11_tries_10 rfl rfl ?_
  refine v_getR 11 C lk_X11_40 (hB 0 _ rfl) (by decide) rfl dX11_tries_11 ?_
  refine v_iload_n 14 C dX11_tries_14 rfl rfl ?_
  refine v_dup2 15 C dX11_tries_15 rfl rfl ?_
  refine v_iald 16 C (hB 11 _ rfl) dX11_tries_16 hf (fun v3 hf => ?_)
  refine v_aload_n 17 C dX11_tries_17 rfl rfl ?_
  refine v_iload_n 18 C dX11_tries_18 rfl rfl ?_
  refine v_iload_n 19 C dX11_tries_19 rfl rfl ?_
  refine v_iload_n 20 C dX11_tries_20 rfl rfl ?_
  refine v_iload 21 C dX11_tries_21 rfl ?_
  refine v_callV (st := [.int v3, .int x1, .ref (E.2.1 (k + 11))]) 23 C [.int x1, .int x2, .int x3, .int x4] lm_X11_199 ly_X11_secondsOf (hB 0 _ rfl) (by decide) dX11_tries_23 rfl (by decide) rfl (Nat.le_of_ble_eq_true rfl) (fun o1 h1 => m_X11_secondsOf k hB x1 x2 x3 x4 s2 o1 h1) hf (fun v4 s5 hf => ?_)
  refine v_iadd 26 C dX11_tries_26 ?_
  refine v_iast 27 C (hB 11 _ rfl) dX11_tries_27 hf (fun s6 hf => ?_)
  refine v_aload_n 28 C dX11_tries_28 rfl rfl ?_
  refine v_dup 29 C dX11_tries_29 rfl ?_
  refine v_getI (dum := 0) 30 C lk_X11_172 (hB 0 _ rfl) (by decide) rfl dX11_tries_30 ?_
  refine v_iconst (v := 1) 33 C dX11_tries_33 (by decide) ?_
  refine v_iadd 34 C dX11_tries_34 ?_
  refine v_putI 35 C lp_X11_172 (hB 0 _ rfl) (by decide) rfl dX11_tries_35 hf (fun s7 hf => ?_)
  refine v_iload 38 C dX11_tries_38 rfl ?_
  refine v_iconst (v := 1) 40 C dX11_tries_40 (by decide) ?_
  refine v_icmp_eq (tgt := 50) 41 C dX11_tries_41 (by decide) hf (fun hf => ?_) (fun hf => ?_)
  · exact Vx.lv [0, 1, 2, 3, 4, 5] rfl (k_X11_tries_b50 C k hB x1 x2 x3 x4 v1 s7 hf)
  · refine v_iload 44 C dX11_tries_44 rfl ?_
    refine v_iconst (v := 2) 46 C dX11_tries_46 (by decide) ?_
    refine v_icmp_ne (tgt := 74) 47 C dX11_tries_47 (by decide) hf (fun hf => ?_) (fun hf => ?_)
    · refine v_iload 74 C dX11_tries_74 rfl ?_
      exact v_iret 76 C rfl dX11_tries_76 hf
    · exact Vx.lv [0, 1, 2, 3, 4, 5] rfl (k_X11_tries_b50 C k hB x1 x2 x3 x4 v1 s7 hf)
theorem m_X11_tries {l : Launch} {E : En} {L : List Nat} (k : Nat) (hB : Bk L sh_AuntsPuzzleModel k) (x1 : Int32) (x2 : Int32) (x3 : Int32) (x4 : Int32) (σ : Sg) (o : Int32 × Sg) (hf : f_X11_tries k x1 x2 x3 x4 σ = some o) : Mi l yX11_tries cX11_tries 6 (some .int) (9) E L [.ref (E.2.1 (k)), .int x1, .int x2, .int x3, .int x4] σ o :=
  Mi.of RX11 rfl (by decide) (Nat.le_of_ble_eq_true rfl) (fun q hq C => by subst hq; exact k_X11_tries_b0 C k hB x1 x2 x3 x4 σ hf)
def f_X11_tryIt_b25 (k : Nat) (σ : Sg) : Rs := p_call (f_X11_no k (-1) σ) (fun v1 s2 => some (v1, s2))
set_option maxRecDepth 100000 in
set_option maxHeartbeats 4000000 in
theorem k_X11_tryIt_b25 {q : Mc} {E : En} {L : List Nat} {o : Int32 × Sg} (C : Cx q E L cX11_tryIt 5 RX11 (some .int) (10)) (k : Nat) (hB : Bk L sh_AuntsPuzzleModel k) (σ : Sg) (hf : f_X11_tryIt_b25 k σ = some o) : Vx q E L 5 (some .int) o 25 [(0, .ref (E.2.1 (k)))] [] σ := by
  unfold f_X11_tryIt_b25 at hf
  refine v_aload_n 25 C dX11_tryIt_25 rfl rfl ?_
  refine v_iconst (v := (-1)) 26 C dX11_tryIt_26 (by decide) ?_
  refine v_callV (st := []) 27 C [.int (-1)] lm_X11_112 ly_X11_no (hB 0 _ rfl) (by decide) dX11_tryIt_27 rfl (by decide) rfl (Nat.le_of_ble_eq_true rfl) (fun o1 h1 => m_X11_no k hB (-1) σ o1 h1) hf (fun v1 s2 hf => ?_)
  exact v_iret 30 C rfl dX11_tryIt_30 hf
def f_X11_tryIt_b75 (k : Nat) (σ : Sg) : Rs := p_call (f_X11_no k (-3) σ) (fun v1 s2 => some (v1, s2))
set_option maxRecDepth 100000 in
set_option maxHeartbeats 4000000 in
theorem k_X11_tryIt_b75 {q : Mc} {E : En} {L : List Nat} {o : Int32 × Sg} (C : Cx q E L cX11_tryIt 5 RX11 (some .int) (10)) (k : Nat) (hB : Bk L sh_AuntsPuzzleModel k) (σ : Sg) (hf : f_X11_tryIt_b75 k σ = some o) : Vx q E L 5 (some .int) o 75 [(0, .ref (E.2.1 (k)))] [] σ := by
  unfold f_X11_tryIt_b75 at hf
  refine v_aload_n 75 C dX11_tryIt_75 rfl rfl ?_
  refine v_bipush (v := (-3)) 76 C dX11_tryIt_76 (by decide) ?_
  refine v_callV (st := []) 78 C [.int (-3)] lm_X11_112 ly_X11_no (hB 0 _ rfl) (by decide) dX11_tryIt_78 rfl (by decide) rfl (Nat.le_of_ble_eq_true rfl) (fun o1 h1 => m_X11_no k hB (-3) σ o1 h1) hf (fun v1 s2 hf => ?_)
  exact v_iret 81 C rfl dX11_tryIt_81 hf
def f_X11_tryIt (k : Nat) (x1 : Int32) (x2 : Int32) (x3 : Int32) (x4 : Int32) (σ : Sg) : Rs := p_call (f_X11_isPerson k x1 σ) (fun v1 s2 => if v1 = 0 then (f_X11_tryIt_b25 k s2) else (p_call (f_X11_isCell k x2 s2) (fun v3 s4 => if v3 = 0 then (f_X11_tryIt_b25 k s4) else (p_call (f_X11_isCell k x4 s4) (fun v5 s6 => if v5 = 0 then (f_X11_tryIt_b25 k s6) else (p_call (f_X11_isIn x3 0 3 s6) (fun v7 s8 => if v7 = 0 then (p_call (f_X11_no k (-2) s8) (fun v15 s16 => some (v15, s16))) else (p_rd s8 (k + 5) 16 x4 (fun v9 => if 0 ≤ v9 then (f_X11_tryIt_b75 k s8) else (p_call (f_X11_isLaid k x2 s8) (fun v10 s11 => if v10 = 0 then (p_rd s11 (k + 8) 16 x2 (fun v12 => if v12 = 1 then (f_X11_tryIt_b75 k s11) else (p_call (f_X11_tries k x1 x2 x3 x4 s11) (fun v13 s14 => some (v13, s14))))) else (f_X11_tryIt_b75 k s11))))))))))))
set_option maxRecDepth 100000 in
set_option maxHeartbeats 4000000 in
theorem k_X11_tryIt_b0 {q : Mc} {E : En} {L : List Nat} {o : Int32 × Sg} (C : Cx q E L cX11_tryIt 5 RX11 (some .int) (10)) (k : Nat) (hB : Bk L sh_AuntsPuzzleModel k) (x1 : Int32) (x2 : Int32) (x3 : Int32) (x4 : Int32) (σ : Sg) (hf : f_X11_tryIt k x1 x2 x3 x4 σ = some o) : Vx q E L 5 (some .int) o 0 [(0, .ref (E.2.1 (k))), (1, .int x1), (2, .int x2), (3, .int x3), (4, .int x4)] [] σ := by
  unfold f_X11_tryIt at hf
  refine v_aload_n 0 C dX11_tryIt_0 rfl rfl ?_
  refine v_iload_n 1 C dX11_tryIt_1 rfl rfl ?_
  refine v_callV (st := []) 2 C [.int x1] lm_X11_196 ly_X11_isPerson (hB 0 _ rfl) (by decide) dX11_tryIt_2 rfl (by decide) rfl (Nat.le_of_ble_eq_true rfl) (fun o1 h1 => m_X11_isPerson k hB x1 σ o1 h1) hf (fun v1 s2 hf => ?_)
  refine v_if_eq (tgt := 25) 5 C dX11_tryIt_5 (by decide) hf (fun hf => ?_) (fun hf => ?_)
  · exact Vx.lv [0] rfl (k_X11_tryIt_b25 C k hB s2 hf)
  · refine v_aload_n 8 C dX11_tryIt_8 rfl rfl ?_
    refine v_iload_n 9 C dX11_tryIt_9 rfl rfl ?_
    refine v_callV (st := []) 10 C [.int x2] lm_X11_144 ly_X11_isCell (hB 0 _ rfl) (by decide) dX11_tryIt_10 rfl (by decide) rfl (Nat.le_of_ble_eq_true rfl) (fun o1 h1 => m_X11_isCell k hB x2 s2 o1 h1) hf (fun v3 s4 hf => ?_)
    refine v_if_eq (tgt := 25) 13 C dX11_tryIt_13 (by decide) hf (fun hf => ?_) (fun hf => ?_)
    · exact Vx.lv [0] rfl (k_X11_tryIt_b25 C k hB s4 hf)
    · refine v_aload_n 16 C dX11_tryIt_16 rfl rfl ?_
      refine v_iload 17 C dX11_tryIt_17 rfl ?_
      refine v_callV (st := []) 19 C [.int x4] lm_X11_144 ly_X11_isCell (hB 0 _ rfl) (by decide) dX11_tryIt_19 rfl (by decide) rfl (Nat.le_of_ble_eq_true rfl) (fun o1 h1 => m_X11_isCell k hB x4 s4 o1 h1) hf (fun v5 s6 hf => ?_)
      refine v_if_ne (tgt := 31) 22 C dX11_tryIt_22 (by decide) hf (fun hf => ?_) (fun hf => ?_)
      · refine v_iload_n 31 C dX11_tryIt_31 rfl rfl ?_
        refine v_iconst (v := 0) 32 C dX11_tryIt_32 (by decide) ?_
        refine v_iconst (v := 3) 33 C dX11_tryIt_33 (by decide) ?_
        refine v_callS (st := []) 34 C [.int x3, .int 0, .int 3] lm_X11_124 lz_X11_isIn dX11_tryIt_34 rfl (by decide) rfl (Nat.le_of_ble_eq_true rfl) (fun o1 h1 => m_X11_isIn   x3 0 3 s6 o1 h1) hf (fun v7 s8 hf => ?_)
        refine v_if_ne (tgt := 47) 37 C dX11_tryIt_37 (by decide) hf (fun hf => ?_) (fun hf => ?_)
        · refine v_aload_n 47 C dX11_tryIt_47 rfl rfl ?_
          refine v_getR 48 C lk_X11_22 (hB 0 _ rfl) (by decide) rfl dX11_tryIt_48 ?_
          refine v_iload 51 C dX11_tryIt_51 rfl ?_
          refine v_iald 53 C (hB 5 _ rfl) dX11_tryIt_53 hf (fun v9 hf => ?_)
          refine v_if_ge (tgt := 75) 54 C dX11_tryIt_54 (by decide) hf (fun hf => ?_) (fun hf => ?_)
          · exact Vx.lv [0] rfl (k_X11_tryIt_b75 C k hB s8 hf)
          · refine v_aload_n 57 C dX11_tryIt_57 rfl rfl ?_
            refine v_iload_n 58 C dX11_tryIt_58 rfl rfl ?_
            refine v_callV (st := []) 59 C [.int x2] lm_X11_203 ly_X11_isLaid (hB 0 _ rfl) (by decide) dX11_tryIt_59 rfl (by decide) rfl (Nat.le_of_ble_eq_true rfl) (fun o1 h1 => m_X11_isLaid k hB x2 s8 o1 h1) hf (fun v10 s11 hf => ?_)
            refine v_if_ne (tgt := 75) 62 C dX11_tryIt_62 (by decide) hf (fun hf => ?_) (fun hf => ?_)
            · exact Vx.lv [0] rfl (k_X11_tryIt_b75 C k hB s11 hf)
            · refine v_aload_n 65 C dX11_tryIt_65 rfl rfl ?_
              refine v_getR 66 C lk_X11_31 (hB 0 _ rfl) (by decide) rfl dX11_tryIt_66 ?_
              refine v_iload_n 69 C dX11_tryIt_69 rfl rfl ?_
              refine v_iald 70 C (hB 8 _ rfl) dX11_tryIt_70 hf (fun v12 hf => ?_)
              refine v_iconst (v := 1) 71 C dX11_tryIt_71 (by decide) ?_
              refine v_icmp_ne (tgt := 82) 72 C dX11_tryIt_72 (by decide) hf (fun hf => ?_) (fun hf => ?_)
              · refine v_aload_n 82 C dX11_tryIt_82 rfl rfl ?_
                refine v_iload_n 83 C dX11_tryIt_83 rfl rfl ?_
                refine v_iload_n 84 C dX11_tryIt_84 rfl rfl ?_
                refine v_iload_n 85 C dX11_tryIt_85 rfl rfl ?_
                refine v_iload 86 C dX11_tryIt_86 rfl ?_
                refine v_callV (st := []) 88 C [.int x1, .int x2, .int x3, .int x4] lm_X11_206 ly_X11_tries (hB 0 _ rfl) (by decide) dX11_tryIt_88 rfl (by decide) rfl (Nat.le_of_ble_eq_true rfl) (fun o1 h1 => m_X11_tries k hB x1 x2 x3 x4 s11 o1 h1) hf (fun v13 s14 hf => ?_)
                exact v_iret 91 C rfl dX11_tryIt_91 hf
              · exact Vx.lv [0] rfl (k_X11_tryIt_b75 C k hB s11 hf)
        · refine v_aload_n 40 C dX11_tryIt_40 rfl rfl ?_
          refine v_bipush (v := (-2)) 41 C dX11_tryIt_41 (by decide) ?_
          refine v_callV (st := []) 43 C [.int (-2)] lm_X11_112 ly_X11_no (hB 0 _ rfl) (by decide) dX11_tryIt_43 rfl (by decide) rfl (Nat.le_of_ble_eq_true rfl) (fun o1 h1 => m_X11_no k hB (-2) s8 o1 h1) hf (fun v15 s16 hf => ?_)
          exact v_iret 46 C rfl dX11_tryIt_46 hf
      · exact Vx.lv [0] rfl (k_X11_tryIt_b25 C k hB s6 hf)
theorem m_X11_tryIt {l : Launch} {E : En} {L : List Nat} (k : Nat) (hB : Bk L sh_AuntsPuzzleModel k) (x1 : Int32) (x2 : Int32) (x3 : Int32) (x4 : Int32) (σ : Sg) (o : Int32 × Sg) (hf : f_X11_tryIt k x1 x2 x3 x4 σ = some o) : Mi l yX11_tryIt cX11_tryIt 5 (some .int) (10) E L [.ref (E.2.1 (k)), .int x1, .int x2, .int x3, .int x4] σ o :=
  Mi.of RX11 rfl (by decide) (Nat.le_of_ble_eq_true rfl) (fun q hq C => by subst hq; exact k_X11_tryIt_b0 C k hB x1 x2 x3 x4 σ hf)
def f_X11_lift (k : Nat) (x1 : Int32) (σ : Sg) : Rs := p_call (f_X11_isCell k x1 σ) (fun v1 s2 => if v1 = 0 then (p_call (f_X11_no k (-1) s2) (fun v8 s9 => some (v8, s9))) else (p_rd s2 (k + 5) 16 x1 (fun v3 => if 0 ≤ v3 then (p_rd s2 (k + 5) 16 x1 (fun v4 => p_wr s2 (k + 5) 16 x1 (-1) (fun s5 => some (v4, s5)))) else (p_call (f_X11_no k (-3) s2) (fun v6 s7 => some (v6, s7))))))
set_option maxRecDepth 100000 in
set_option maxHeartbeats 4000000 in
theorem k_X11_lift_b0 {q : Mc} {E : En} {L : List Nat} {o : Int32 × Sg} (C : Cx q E L cX11_lift 3 RX11 (some .int) (3)) (k : Nat) (hB : Bk L sh_AuntsPuzzleModel k) (x1 : Int32) (σ : Sg) (hf : f_X11_lift k x1 σ = some o) : Vx q E L 3 (some .int) o 0 [(0, .ref (E.2.1 (k))), (1, .int x1)] [] σ := by
  unfold f_X11_lift at hf
  refine v_aload_n 0 C dX11_lift_0 rfl rfl ?_
  refine v_iload_n 1 C dX11_lift_1 rfl rfl ?_
  refine v_callV (st := []) 2 C [.int x1] lm_X11_144 ly_X11_isCell (hB 0 _ rfl) (by decide) dX11_lift_2 rfl (by decide) rfl (Nat.le_of_ble_eq_true rfl) (fun o1 h1 => m_X11_isCell k hB x1 σ o1 h1) hf (fun v1 s2 hf => ?_)
  refine v_if_ne (tgt := 14) 5 C dX11_lift_5 (by decide) hf (fun hf => ?_) (fun hf => ?_)
  · refine v_aload_n 14 C dX11_lift_14 rfl rfl ?_
    refine v_getR 15 C lk_X11_22 (hB 0 _ rfl) (by decide) rfl dX11_lift_15 ?_
    refine v_iload_n 18 C dX11_lift_18 rfl rfl ?_
    refine v_iald 19 C (hB 5 _ rfl) dX11_lift_19 hf (fun v3 hf => ?_)
    refine v_if_ge (tgt := 30) 20 C dX11_lift_20 (by decide) hf (fun hf => ?_) (fun hf => ?_)
    · refine v_aload_n 30 C dX11_lift_30 rfl rfl ?_
      refine v_getR 31 C lk_X11_22 (hB 0 _ rfl) (by decide) rfl dX11_lift_31 ?_
      refine v_iload_n 34 C dX11_lift_34 rfl rfl ?_
      refine v_iald 35 C (hB 5 _ rfl) dX11_lift_35 hf (fun v4 hf => ?_)
      refine v_istore_n (lv' := [(0, .ref (E.2.1 (k))), (1, .int x1), (2, .int v4)]) 36 C dX11_lift_36 rfl (by decide) rfl rfl ?_
      refine v_aload_n 37 C dX11_lift_37 rfl rfl ?_
      refine v_getR 38 C lk_X11_22 (hB 0 _ rfl) (by decide) rfl dX11_lift_38 ?_
      refine v_iload_n 41 C dX11_lift_41 rfl rfl ?_
      refine v_iconst (v := (-1)) 42 C dX11_lift_42 (by decide) ?_
      refine v_iast 43 C (hB 5 _ rfl) dX11_lift_43 hf (fun s5 hf => ?_)
      refine v_iload_n 44 C dX11_lift_44 rfl rfl ?_
      exact v_iret 45 C rfl dX11_lift_45 hf
    · refine v_aload_n 23 C dX11_lift_23 rfl rfl ?_
      refine v_bipush (v := (-3)) 24 C dX11_lift_24 (by decide) ?_
      refine v_callV (st := []) 26 C [.int (-3)] lm_X11_112 ly_X11_no (hB 0 _ rfl) (by decide) dX11_lift_26 rfl (by decide) rfl (Nat.le_of_ble_eq_true rfl) (fun o1 h1 => m_X11_no k hB (-3) s2 o1 h1) hf (fun v6 s7 hf => ?_)
      exact v_iret 29 C rfl dX11_lift_29 hf
  · refine v_aload_n 8 C dX11_lift_8 rfl rfl ?_
    refine v_iconst (v := (-1)) 9 C dX11_lift_9 (by decide) ?_
    refine v_callV (st := []) 10 C [.int (-1)] lm_X11_112 ly_X11_no (hB 0 _ rfl) (by decide) dX11_lift_10 rfl (by decide) rfl (Nat.le_of_ble_eq_true rfl) (fun o1 h1 => m_X11_no k hB (-1) s2 o1 h1) hf (fun v8 s9 hf => ?_)
    exact v_iret 13 C rfl dX11_lift_13 hf
theorem m_X11_lift {l : Launch} {E : En} {L : List Nat} (k : Nat) (hB : Bk L sh_AuntsPuzzleModel k) (x1 : Int32) (σ : Sg) (o : Int32 × Sg) (hf : f_X11_lift k x1 σ = some o) : Mi l yX11_lift cX11_lift 3 (some .int) (3) E L [.ref (E.2.1 (k)), .int x1] σ o :=
  Mi.of RX11 rfl (by decide) (Nat.le_of_ble_eq_true rfl) (fun q hq C => by subst hq; exact k_X11_lift_b0 C k hB x1 σ hf)
def f_X11_pocket_b32 (k : Nat) (σ : Sg) : Rs := p_call (f_X11_no k (-3) σ) (fun v1 s2 => some (v1, s2))
set_option maxRecDepth 100000 in
set_option maxHeartbeats 4000000 in
theorem k_X11_pocket_b32 {q : Mc} {E : En} {L : List Nat} {o : Int32 × Sg} (C : Cx q E L cX11_pocket 2 RX11 (some .int) (3)) (k : Nat) (hB : Bk L sh_AuntsPuzzleModel k) (σ : Sg) (hf : f_X11_pocket_b32 k σ = some o) : Vx q E L 2 (some .int) o 32 [(0, .ref (E.2.1 (k)))] [] σ := by
  unfold f_X11_pocket_b32 at hf
  refine v_aload_n 32 C dX11_pocket_32 rfl rfl ?_
  refine v_bipush (v := (-3)) 33 C dX11_pocket_33 (by decide) ?_
  refine v_callV (st := []) 35 C [.int (-3)] lm_X11_112 ly_X11_no (hB 0 _ rfl) (by decide) dX11_pocket_35 rfl (by decide) rfl (Nat.le_of_ble_eq_true rfl) (fun o1 h1 => m_X11_no k hB (-3) σ o1 h1) hf (fun v1 s2 hf => ?_)
  exact v_iret 38 C rfl dX11_pocket_38 hf
def f_X11_pocket (k : Nat) (x1 : Int32) (σ : Sg) : Rs := p_call (f_X11_isCell k x1 σ) (fun v1 s2 => if v1 = 0 then (p_call (f_X11_no k (-1) s2) (fun v9 s10 => some (v9, s10))) else (p_call (f_X11_isLaid k x1 s2) (fun v3 s4 => if v3 = 0 then (p_rd s4 (k + 8) 16 x1 (fun v5 => if v5 = 1 then (f_X11_pocket_b32 k s4) else (p_wr s4 (k + 8) 16 x1 1 (fun s6 => p_call (f_X11_lostMany k s6) (fun v7 s8 => some (v7, s8)))))) else (f_X11_pocket_b32 k s4))))
set_option maxRecDepth 100000 in
set_option maxHeartbeats 4000000 in
theorem k_X11_pocket_b0 {q : Mc} {E : En} {L : List Nat} {o : Int32 × Sg} (C : Cx q E L cX11_pocket 2 RX11 (some .int) (3)) (k : Nat) (hB : Bk L sh_AuntsPuzzleModel k) (x1 : Int32) (σ : Sg) (hf : f_X11_pocket k x1 σ = some o) : Vx q E L 2 (some .int) o 0 [(0, .ref (E.2.1 (k))), (1, .int x1)] [] σ := by
  unfold f_X11_pocket at hf
  refine v_aload_n 0 C dX11_pocket_0 rfl rfl ?_
  refine v_iload_n 1 C dX11_pocket_1 rfl rfl ?_
  refine v_callV (st := []) 2 C [.int x1] lm_X11_144 ly_X11_isCell (hB 0 _ rfl) (by decide) dX11_pocket_2 rfl (by decide) rfl (Nat.le_of_ble_eq_true rfl) (fun o1 h1 => m_X11_isCell k hB x1 σ o1 h1) hf (fun v1 s2 hf => ?_)
  refine v_if_ne (tgt := 14) 5 C dX11_pocket_5 (by decide) hf (fun hf => ?_) (fun hf => ?_)
  · refine v_aload_n 14 C dX11_pocket_14 rfl rfl ?_
    refine v_iload_n 15 C dX11_pocket_15 rfl rfl ?_
    refine v_callV (st := []) 16 C [.int x1] lm_X11_203 ly_X11_isLaid (hB 0 _ rfl) (by decide) dX11_pocket_16 rfl (by decide) rfl (Nat.le_of_ble_eq_true rfl) (fun o1 h1 => m_X11_isLaid k hB x1 s2 o1 h1) hf (fun v3 s4 hf => ?_)
    refine v_if_ne (tgt := 32) 19 C dX11_pocket_19 (by decide) hf (fun hf => ?_) (fun hf => ?_)
    · exact Vx.lv [0] rfl (k_X11_pocket_b32 C k hB s4 hf)
    · refine v_aload_n 22 C dX11_pocket_22 rfl rfl ?_
      refine v_getR 23 C lk_X11_31 (hB 0 _ rfl) (by decide) rfl dX11_pocket_23 ?_
      refine v_iload_n 26 C dX11_pocket_26 rfl rfl ?_
      refine v_iald 27 C (hB 8 _ rfl) dX11_pocket_27 hf (fun v5 hf => ?_)
      refine v_iconst (v := 1) 28 C dX11_pocket_28 (by decide) ?_
      refine v_icmp_ne (tgt := 39) 29 C dX11_pocket_29 (by decide) hf (fun hf => ?_) (fun hf => ?_)
      · refine v_aload_n 39 C dX11_pocket_39 rfl rfl ?_
        refine v_getR 40 C lk_X11_31 (hB 0 _ rfl) (by decide) rfl dX11_pocket_40 ?_
        refine v_iload_n 43 C dX11_pocket_43 rfl rfl ?_
        refine v_iconst (v := 1) 44 C dX11_pocket_44 (by decide) ?_
        refine v_iast 45 C (hB 8 _ rfl) dX11_pocket_45 hf (fun s6 hf => ?_)
        refine v_aload_n 46 C dX11_pocket_46 rfl rfl ?_
        refine v_callV (st := []) 47 C [] lm_X11_208 ly_X11_lostMany (hB 0 _ rfl) (by decide) dX11_pocket_47 rfl (by decide) rfl (Nat.le_of_ble_eq_true rfl) (fun o1 h1 => m_X11_lostMany k hB  s6 o1 h1) hf (fun v7 s8 hf => ?_)
        exact v_iret 50 C rfl dX11_pocket_50 hf
      · exact Vx.lv [0] rfl (k_X11_pocket_b32 C k hB s4 hf)
  · refine v_aload_n 8 C dX11_pocket_8 rfl rfl ?_
    refine v_iconst (v := (-1)) 9 C dX11_pocket_9 (by decide) ?_
    refine v_callV (st := []) 10 C [.int (-1)] lm_X11_112 ly_X11_no (hB 0 _ rfl) (by decide) dX11_pocket_10 rfl (by decide) rfl (Nat.le_of_ble_eq_true rfl) (fun o1 h1 => m_X11_no k hB (-1) s2 o1 h1) hf (fun v9 s10 hf => ?_)
    exact v_iret 13 C rfl dX11_pocket_13 hf
theorem m_X11_pocket {l : Launch} {E : En} {L : List Nat} (k : Nat) (hB : Bk L sh_AuntsPuzzleModel k) (x1 : Int32) (σ : Sg) (o : Int32 × Sg) (hf : f_X11_pocket k x1 σ = some o) : Mi l yX11_pocket cX11_pocket 2 (some .int) (3) E L [.ref (E.2.1 (k)), .int x1] σ o :=
  Mi.of RX11 rfl (by decide) (Nat.le_of_ble_eq_true rfl) (fun q hq C => by subst hq; exact k_X11_pocket_b0 C k hB x1 σ hf)
def f_X11_find (k : Nat) (x1 : Int32) (σ : Sg) : Rs := p_call (f_X11_isCell k x1 σ) (fun v1 s2 => if v1 = 0 then (p_call (f_X11_no k (-1) s2) (fun v9 s10 => some (v9, s10))) else (p_rd s2 (k + 8) 16 x1 (fun v3 => if v3 = 0 then (p_call (f_X11_no k (-3) s2) (fun v7 s8 => some (v7, s8))) else (p_wr s2 (k + 8) 16 x1 0 (fun s4 => p_call (f_X11_lostMany k s4) (fun v5 s6 => some (v5, s6)))))))
set_option maxRecDepth 100000 in
set_option maxHeartbeats 4000000 in
theorem k_X11_find_b0 {q : Mc} {E : En} {L : List Nat} {o : Int32 × Sg} (C : Cx q E L cX11_find 2 RX11 (some .int) (3)) (k : Nat) (hB : Bk L sh_AuntsPuzzleModel k) (x1 : Int32) (σ : Sg) (hf : f_X11_find k x1 σ = some o) : Vx q E L 2 (some .int) o 0 [(0, .ref (E.2.1 (k))), (1, .int x1)] [] σ := by
  unfold f_X11_find at hf
  refine v_aload_n 0 C dX11_find_0 rfl rfl ?_
  refine v_iload_n 1 C dX11_find_1 rfl rfl ?_
  refine v_callV (st := []) 2 C [.int x1] lm_X11_144 ly_X11_isCell (hB 0 _ rfl) (by decide) dX11_find_2 rfl (by decide) rfl (Nat.le_of_ble_eq_true rfl) (fun o1 h1 => m_X11_isCell k hB x1 σ o1 h1) hf (fun v1 s2 hf => ?_)
  refine v_if_ne (tgt := 14) 5 C dX11_find_5 (by decide) hf (fun hf => ?_) (fun hf => ?_)
  · refine v_aload_n 14 C dX11_find_14 rfl rfl ?_
    refine v_getR 15 C lk_X11_31 (hB 0 _ rfl) (by decide) rfl dX11_find_15 ?_
    refine v_iload_n 18 C dX11_find_18 rfl rfl ?_
    refine v_iald 19 C (hB 8 _ rfl) dX11_find_19 hf (fun v3 hf => ?_)
    refine v_if_ne (tgt := 30) 20 C dX11_find_20 (by decide) hf (fun hf => ?_) (fun hf => ?_)
    · refine v_aload_n 30 C dX11_find_30 rfl rfl ?_
      refine v_getR 31 C lk_X11_31 (hB 0 _ rfl) (by decide) rfl dX11_find_31 ?_
      refine v_iload_n 34 C dX11_find_34 rfl rfl ?_
      refine v_iconst (v := 0) 35 C dX11_find_35 (by decide) ?_
      refine v_iast 36 C (hB 8 _ rfl) dX11_find_36 hf (fun s4 hf => ?_)
      refine v_aload_n 37 C dX11_find_37 rfl rfl ?_
      refine v_callV (st := []) 38 C [] lm_X11_208 ly_X11_lostMany (hB 0 _ rfl) (by decide) dX11_find_38 rfl (by decide) rfl (Nat.le_of_ble_eq_true rfl) (fun o1 h1 => m_X11_lostMany k hB  s4 o1 h1) hf (fun v5 s6 hf => ?_)
      exact v_iret 41 C rfl dX11_find_41 hf
    · refine v_aload_n 23 C dX11_find_23 rfl rfl ?_
      refine v_bipush (v := (-3)) 24 C dX11_find_24 (by decide) ?_
      refine v_callV (st := []) 26 C [.int (-3)] lm_X11_112 ly_X11_no (hB 0 _ rfl) (by decide) dX11_find_26 rfl (by decide) rfl (Nat.le_of_ble_eq_true rfl) (fun o1 h1 => m_X11_no k hB (-3) s2 o1 h1) hf (fun v7 s8 hf => ?_)
      exact v_iret 29 C rfl dX11_find_29 hf
  · refine v_aload_n 8 C dX11_find_8 rfl rfl ?_
    refine v_iconst (v := (-1)) 9 C dX11_find_9 (by decide) ?_
    refine v_callV (st := []) 10 C [.int (-1)] lm_X11_112 ly_X11_no (hB 0 _ rfl) (by decide) dX11_find_10 rfl (by decide) rfl (Nat.le_of_ble_eq_true rfl) (fun o1 h1 => m_X11_no k hB (-1) s2 o1 h1) hf (fun v9 s10 hf => ?_)
    exact v_iret 13 C rfl dX11_find_13 hf
theorem m_X11_find {l : Launch} {E : En} {L : List Nat} (k : Nat) (hB : Bk L sh_AuntsPuzzleModel k) (x1 : Int32) (σ : Sg) (o : Int32 × Sg) (hf : f_X11_find k x1 σ = some o) : Mi l yX11_find cX11_find 2 (some .int) (3) E L [.ref (E.2.1 (k)), .int x1] σ o :=
  Mi.of RX11 rfl (by decide) (Nat.le_of_ble_eq_true rfl) (fun q hq C => by subst hq; exact k_X11_find_b0 C k hB x1 σ hf)
def f_X11_findWays_b299 (k : Nat) (σ : Sg) : Rs := p_call (f_X11_passesAll k 1 0 σ) (fun v1 s2 => some (0, s2))
set_option maxRecDepth 100000 in
set_option maxHeartbeats 4000000 in
theorem k_X11_findWays_b299 {q : Mc} {E : En} {L : List Nat} {o : Int32 × Sg} (C : Cx q E L cX11_findWays 6 RX11 none (7)) (k : Nat) (hB : Bk L sh_AuntsPuzzleModel k) (σ : Sg) (hf : f_X11_findWays_b299 k σ = some o) : Vx q E L 6 none o 299 [(0, .ref (E.2.1 (k)))] [] σ := by
  unfold f_X11_findWays_b299 at hf
  refine v_aload_n 299 C dX11_findWays_299 rfl rfl ?_
  refine v_iconst (v := 1) 300 C dX11_findWays_300 (by decide) ?_
  refine v_iconst (v := 0) 301 C dX11_findWays_301 (by decide) ?_
  refine v_callV (st := []) 302 C [.int 1, .int 0] lm_X11_151 ly_X11_passesAll (hB 0 _ rfl) (by decide) dX11_findWays_302 rfl (by decide) rfl (Nat.le_of_ble_eq_true rfl) (fun o1 h1 => m_X11_passesAll k hB 1 0 σ o1 h1) hf (fun v1 s2 hf => ?_)
  exact v_ret (r := 0) 305 C rfl dX11_findWays_305 hf
def f_X11_findWays_b156 (k : Nat) (r48 : Int32 → Int32 → Int32 → Sg → Rs) (x1 : Int32) (x2 : Int32) (x3 : Int32) (σ : Sg) : Rs := if (0 : Int32) ≤ (x1 + (-1)) then (p_rd σ (k + 5) 16 (x1 + (-1)) (fun v1 => p_rd σ (k + 6) 16 (x1 + (-1)) (fun v2 => p_rd σ (k + 5) 16 (x1 + (-1)) (fun v3 => p_wr σ (k + 5) 16 (x1 + (-1)) (-1) (fun s4 => r48 (x1 + (-1)) (((4 * v1) + v2) + 1) (x3 &&& ((1 <<< (v3 &&& 31)) ^^^ (-1))) s4))))) else (r48 (x1 + (-1)) x2 x3 σ)
set_option maxRecDepth 100000 in
set_option maxHeartbeats 4000000 in
theorem k_X11_findWays_b156 {q : Mc} {E : En} {L : List Nat} {o : Int32 × Sg} (C : Cx q E L cX11_findWays 6 RX11 none (7)) (k : Nat) (hB : Bk L sh_AuntsPuzzleModel k) (r48 : Int32 → Int32 → Int32 → Sg → Rs) (hr48 : ∀ (x1 : Int32) (x2 : Int32) (x3 : Int32) (σ : Sg), r48 x1 x2 x3 σ = some o → Vx q E L 6 none o 48 [(0, .ref (E.2.1 (k))), (1, .int x1), (2, .int x2), (3, .int x3)] [] σ) (x1 : Int32) (x2 : Int32) (x3 : Int32) (σ : Sg) (hf : f_X11_findWays_b156 k r48 x1 x2 x3 σ = some o) : Vx q E L 6 none o 156 [(0, .ref (E.2.1 (k))), (1, .int x1), (2, .int x2), (3, .int x3)] [] σ := by
  unfold f_X11_findWays_b156 at hf
  refine v_iinc (v := x1 + (-1)) (lv' := [(0, .ref (E.2.1 (k))), (1, .int (x1 + (-1))), (2, .int x2), (3, .int x3)]) 156 C dX11_findWays_156 rfl (by rfl) (by decide) rfl rfl ?_
  refine v_iload_n 159 C dX11_findWays_159 rfl rfl ?_
  refine v_if_ge (tgt := 166) 160 C dX11_findWays_160 (by decide) hf (fun hf => ?_) (fun hf => ?_)
  · refine v_iconst (v := 4) 166 C dX11_findWays_166 (by decide) ?_
    refine v_aload_n 167 C dX11_findWays_167 rfl rfl ?_
    refine v_getR 168 C lk_X11_22 (hB 0 _ rfl) (by decide) rfl dX11_findWays_168 ?_
    refine v_iload_n 171 C dX11_findWays_171 rfl rfl ?_
    refine v_iald 172 C (hB 5 _ rfl) dX11_findWays_172 hf (fun v1 hf => ?_)
    refine v_imul 173 C dX11_findWays_173 ?_
    refine v_aload_n 174 C dX11_findWays_174 rfl rfl ?_
    refine v_getR 175 C lk_X11_25 (hB 0 _ rfl) (by decide) rfl dX11_findWays_175 ?_
    refine v_iload_n 178 C dX11_findWays_178 rfl rfl ?_
    refine v_iald 179 C (hB 6 _ rfl) dX11_findWays_179 hf (fun v2 hf => ?_)
    refine v_iadd 180 C dX11_findWays_180 ?_
    refine v_iconst (v := 1) 181 C dX11_findWays_181 (by decide) ?_
    refine v_iadd 182 C dX11_findWays_182 ?_
    refine v_istore_n (lv' := [(0, .ref (E.2.1 (k))), (1, .int (x1 + (-1))), (2, .int (((4 * v1) + v2) + 1)), (3, .int x3)]) 183 C dX11_findWays_183 rfl (by decide) rfl rfl ?_
    refine v_iload_n 184 C dX11_findWays_184 rfl rfl ?_
    refine v_iconst (v := 1) 185 C dX11_findWays_185 (by decide) ?_
    refine v_aload_n 186 C dX11_findWays_186 rfl rfl ?_
    refine v_getR 187 C lk_X11_22 (hB 0 _ rfl) (by decide) rfl dX11_findWays_187 ?_
    refine v_iload_n 190 C dX11_findWays_190 rfl rfl ?_
    refine v_iald 191 C (hB 5 _ rfl) dX11_findWays_191 hf (fun v3 hf => ?_)
    refine v_ishl 192 C dX11_findWays_192 ?_
    refine v_iconst (v := (-1)) 193 C dX11_findWays_193 (by decide) ?_
    refine v_ixor 194 C dX11_findWays_194 ?_
    refine v_iand 195 C dX11_findWays_195 ?_
    refine v_istore_n (lv' := [(0, .ref (E.2.1 (k))), (1, .int (x1 + (-1))), (2, .int (((4 * v1) + v2) + 1)), (3, .int (x3 &&& ((1 <<< (v3 &&& 31)) ^^^ (-1))))]) 196 C dX11_findWays_196 rfl (by decide) rfl rfl ?_
    refine v_aload_n 197 C dX11_findWays_197 rfl rfl ?_
    refine v_getR 198 C lk_X11_22 (hB 0 _ rfl) (by decide) rfl dX11_findWays_198 ?_
    refine v_iload_n 201 C dX11_findWays_201 rfl rfl ?_
    refine v_iconst (v := (-1)) 202 C dX11_findWays_202 (by decide) ?_
    refine v_iast 203 C (hB 5 _ rfl) dX11_findWays_203 hf (fun s4 hf => ?_)
    refine v_goto (tgt := 48) 204 C dX11_findWays_204 (by decide) ?_
    exact Vx.lv [0, 1, 2, 3] rfl (hr48 (x1 + (-1)) (((4 * v1) + v2) + 1) (x3 &&& ((1 <<< (v3 &&& 31)) ^^^ (-1))) s4 hf)
  · refine v_goto (tgt := 48) 163 C dX11_findWays_163 (by decide) ?_
    exact Vx.lv [0, 1, 2, 3] rfl (hr48 (x1 + (-1)) x2 x3 σ hf)
def f_X11_findWays_b151 (k : Nat) (r48 : Int32 → Int32 → Int32 → Sg → Rs) (x1 : Int32) (x2 : Int32) (x3 : Int32) (σ : Sg) : Rs := p_bo 1 (p_put σ (k) 32 1 (fun s1 => f_X11_findWays_b156 k r48 x1 x2 x3 s1))
set_option maxRecDepth 100000 in
set_option maxHeartbeats 4000000 in
theorem k_X11_findWays_b151 {q : Mc} {E : En} {L : List Nat} {o : Int32 × Sg} (C : Cx q E L cX11_findWays 6 RX11 none (7)) (k : Nat) (hB : Bk L sh_AuntsPuzzleModel k) (r48 : Int32 → Int32 → Int32 → Sg → Rs) (hr48 : ∀ (x1 : Int32) (x2 : Int32) (x3 : Int32) (σ : Sg), r48 x1 x2 x3 σ = some o → Vx q E L 6 none o 48 [(0, .ref (E.2.1 (k))), (1, .int x1), (2, .int x2), (3, .int x3)] [] σ) (x1 : Int32) (x2 : Int32) (x3 : Int32) (σ : Sg) (hf : f_X11_findWays_b151 k r48 x1 x2 x3 σ = some o) : Vx q E L 6 none o 151 [(0, .ref (E.2.1 (k))), (1, .int x1), (2, .int x2), (3, .int x3)] [] σ := by
  unfold f_X11_findWays_b151 at hf
  refine v_aload_n 151 C dX11_findWays_151 rfl rfl ?_
  refine v_iconst (v := 1) 152 C dX11_findWays_152 (by decide) ?_
  refine v_putZ 153 C lp_X11_217 (hB 0 _ rfl) (by decide) rfl dX11_findWays_153 hf (fun s1 hf => ?_)
  exact Vx.lv [0, 1, 2, 3] rfl (k_X11_findWays_b156 C k hB r48 hr48 x1 x2 x3 s1 hf)
def f_X11_findWays_b101 (k : Nat) (r48 : Int32 → Int32 → Int32 → Sg → Rs) : Nat → Int32 → Int32 → Int32 → Int32 → Sg → Rs
  | 0, _, _, _, _, _ => none
  | n + 1, x1, x2, x3, x4, σ => p_call (f_X11_cells k σ) (fun v1 s2 => if v1 ≤ x4 then (f_X11_findWays_b151 k r48 x1 x2 x3 s2) else (if (s2 (k) 32) = 0 then (p_rd s2 (k + 5) 16 x4 (fun v3 => p_wr s2 (k + 19) 16 x4 v3 (fun s4 => p_rd s4 (k + 6) 16 x4 (fun v5 => p_wr s4 (k + 20) 16 x4 v5 (fun s6 => f_X11_findWays_b101 k r48 n x1 x2 x3 (x4 + 1) s6))))) else (f_X11_findWays_b151 k r48 x1 x2 x3 s2)))
set_option maxRecDepth 100000 in
set_option maxHeartbeats 4000000 in
theorem k_X11_findWays_b101 {q : Mc} {E : En} {L : List Nat} {o : Int32 × Sg} (C : Cx q E L cX11_findWays 6 RX11 none (7)) (k : Nat) (hB : Bk L sh_AuntsPuzzleModel k) (r48 : Int32 → Int32 → Int32 → Sg → Rs) (hr48 : ∀ (x1 : Int32) (x2 : Int32) (x3 : Int32) (σ : Sg), r48 x1 x2 x3 σ = some o → Vx q E L 6 none o 48 [(0, .ref (E.2.1 (k))), (1, .int x1), (2, .int x2), (3, .int x3)] [] σ) (n : Nat) : ∀ (x1 : Int32) (x2 : Int32) (x3 : Int32) (x4 : Int32) (σ : Sg), f_X11_findWays_b101 k r48 n x1 x2 x3 x4 σ = some o → Vx q E L 6 none o 101 [(0, .ref (E.2.1 (k))), (1, .int x1), (2, .int x2), (3, .int x3), (4, .int x4)] [] σ := by
  induction n with
  | zero => intro x1 x2 x3 x4 σ hf; cases (show (none : Rs) = some o from hf)
  | succ n ih =>
    intro x1 x2 x3 x4 σ hf
    rw [f_X11_findWays_b101] at hf
    refine v_iload 101 C dX11_findWays_101 rfl ?_
    refine v_aload_n 103 C dX11_findWays_103 rfl rfl ?_
    refine v_callV (st := [.int x4]) 104 C [] lm_X11_91 ly_X11_cells (hB 0 _ rfl) (by decide) dX11_findWays_104 rfl (by decide) rfl (Nat.le_of_ble_eq_true rfl) (fun o1 h1 => m_X11_cells k hB  σ o1 h1) hf (fun v1 s2 hf => ?_)
    refine v_icmp_ge (tgt := 151) 107 C dX11_findWays_107 (by decide) hf (fun hf => ?_) (fun hf => ?_)
    · exact Vx.lv [0, 1, 2, 3] rfl (k_X11_findWays_b151 C k hB r48 hr48 x1 x2 x3 s2 hf)
    · refine v_aload_n 110 C dX11_findWays_110 rfl rfl ?_
      refine v_getI (dum := 0) 111 C lk_X11_217 (hB 0 _ rfl) (by decide) rfl dX11_findWays_111 ?_
      refine v_if_ne (tgt := 151) 114 C dX11_findWays_114 (by decide) hf (fun hf => ?_) (fun hf => ?_)
      · exact Vx.lv [0, 1, 2, 3] rfl (k_X11_findWays_b151 C k hB r48 hr48 x1 x2 x3 s2 hf)
      · refine v_aload_n 117 C dX11_findWays_117 rfl rfl ?_
        refine v_getR 118 C lk_X11_64 (hB 0 _ rfl) (by decide) rfl dX11_findWays_118 ?_
        refine v_iload 121 C dX11_findWays_121 rfl ?_
        refine v_aload_n 123 C dX11_findWays_123 rfl rfl ?_
        refine v_getR 124 C lk_X11_22 (hB 0 _ rfl) (by decide) rfl dX11_findWays_124 ?_
        refine v_iload 127 C dX11_findWays_127 rfl ?_
        refine v_iald 129 C (hB 5 _ rfl) dX11_findWays_129 hf (fun v3 hf => ?_)
        refine v_iast 130 C (hB 19 _ rfl) dX11_findWays_130 hf (fun s4 hf => ?_)
        refine v_aload_n 131 C dX11_findWays_131 rfl rfl ?_
        refine v_getR 132 C lk_X11_67 (hB 0 _ rfl) (by decide) rfl dX11_findWays_132 ?_
        refine v_iload 135 C dX11_findWays_135 rfl ?_
        refine v_aload_n 137 C dX11_findWays_137 rfl rfl ?_
        refine v_getR 138 C lk_X11_25 (hB 0 _ rfl) (by decide) rfl dX11_findWays_138 ?_
        refine v_iload 141 C dX11_findWays_141 rfl ?_
        refine v_iald 143 C (hB 6 _ rfl) dX11_findWays_143 hf (fun v5 hf => ?_)
        refine v_iast 144 C (hB 20 _ rfl) dX11_findWays_144 hf (fun s6 hf => ?_)
        refine v_iinc (v := x4 + 1) (lv' := [(0, .ref (E.2.1 (k))), (1, .int x1), (2, .int x2), (3, .int x3), (4, .int (x4 + 1))]) 145 C dX11_findWays_145 rfl (by rfl) (by decide) rfl rfl ?_
        refine v_goto (tgt := 101) 148 C dX11_findWays_148 (by decide) ?_
        exact Vx.lv [0, 1, 2, 3, 4] rfl (ih x1 x2 x3 (x4 + 1) s6 hf)
def f_X11_findWays_b80 (k : Nat) (r48 : Int32 → Int32 → Int32 → Sg → Rs) (x1 : Int32) (x2 : Int32) (x3 : Int32) (σ : Sg) : Rs := p_call (f_X11_cells k σ) (fun v1 s2 => if x1 = v1 then (p_put s2 (k) 30 ((s2 (k) 30) + 1) (fun s3 => f_X11_findWays_b101 k r48 fu x1 x2 x3 0 s3)) else (f_X11_findWays_b156 k r48 x1 x2 x3 s2))
set_option maxRecDepth 100000 in
set_option maxHeartbeats 4000000 in
theorem k_X11_findWays_b80 {q : Mc} {E : En} {L : List Nat} {o : Int32 × Sg} (C : Cx q E L cX11_findWays 6 RX11 none (7)) (k : Nat) (hB : Bk L sh_AuntsPuzzleModel k) (r48 : Int32 → Int32 → Int32 → Sg → Rs) (hr48 : ∀ (x1 : Int32) (x2 : Int32) (x3 : Int32) (σ : Sg), r48 x1 x2 x3 σ = some o → Vx q E L 6 none o 48 [(0, .ref (E.2.1 (k))), (1, .int x1), (2, .int x2), (3, .int x3)] [] σ) (x1 : Int32) (x2 : Int32) (x3 : Int32) (σ : Sg) (hf : f_X11_findWays_b80 k r48 x1 x2 x3 σ = some o) : Vx q E L 6 none o 80 [(0, .ref (E.2.1 (k))), (1, .int x1), (2, .int x2), (3, .int x3)] [] σ := by
  unfold f_X11_findWays_b80 at hf
  refine v_iload_n 80 C dX11_findWays_80 rfl rfl ?_
  refine v_aload_n 81 C dX11_findWays_81 rfl rfl ?_
  refine v_callV (st := [.int x1]) 82 C [] lm_X11_91 ly_X11_cells (hB 0 _ rfl) (by decide) dX11_findWays_82 rfl (by decide) rfl (Nat.le_of_ble_eq_true rfl) (fun o1 h1 => m_X11_cells k hB  σ o1 h1) hf (fun v1 s2 hf => ?_)
  refine v_icmp_ne (tgt := 156) 85 C dX11_findWays_85 (by decide) hf (fun hf => ?_) (fun hf => ?_)
  · exact Vx.lv [0, 1, 2, 3] rfl (k_X11_findWays_b156 C k hB r48 hr48 x1 x2 x3 s2 hf)
  · refine v_aload_n 88 C dX11_findWays_88 rfl rfl ?_
    refine v_dup 89 C dX11_findWays_89 rfl ?_
    refine v_getI (dum := 0) 90 C lk_X11_211 (hB 0 _ rfl) (by decide) rfl dX11_findWays_90 ?_
    refine v_iconst (v := 1) 93 C dX11_findWays_93 (by decide) ?_
    refine v_iadd 94 C dX11_findWays_94 ?_
    refine v_putI 95 C lp_X11_211 (hB 0 _ rfl) (by decide) rfl dX11_findWays_95 hf (fun s3 hf => ?_)
    refine v_iconst (v := 0) 98 C dX11_findWays_98 (by decide) ?_
    refine v_istore (lv' := [(0, .ref (E.2.1 (k))), (1, .int x1), (2, .int x2), (3, .int x3), (4, .int 0)]) 99 C dX11_findWays_99 (by decide) rfl rfl ?_
    exact Vx.lv [0, 1, 2, 3, 4] rfl (k_X11_findWays_b101 C k hB r48 hr48 fu x1 x2 x3 0 s3 hf)
def f_X11_findWays_b48 (k : Nat)  : Nat → Int32 → Int32 → Int32 → Sg → Rs
  | 0, _, _, _, _ => none
  | n + 1, x1, x2, x3, σ => if x1 < 0 then (f_X11_findWays_b299 k σ) else (if (20000 : Int32) < (σ (k) 31) then (f_X11_findWays_b299 k σ) else (p_call (f_X11_cells k σ) (fun v1 s2 => if x1 = v1 then (f_X11_findWays_b80 k (f_X11_findWays_b48 k n) x1 x2 x3 s2) else (p_call (f_X11_cells k s2) (fun v3 s4 => if x2 = (4 * v3) then (f_X11_findWays_b80 k (f_X11_findWays_b48 k n) x1 x2 x3 s4) else (if ((x3 >>> ((x2 / 4) &&& 31)) &&& 1) = 1 then (f_X11_findWays_b48 k n x1 (x2 + 1) x3 s4) else (p_put s4 (k) 31 ((s4 (k) 31) + 1) (fun s5 => if (20000 : Int32) < (s5 (k) 31) then (f_X11_findWays_b48 k n x1 (x2 + 1) x3 s5) else (p_call (f_X11_doesFit k (x2 / 4) (x2 - x2 / 4 * 4) x1 s5) (fun v6 s7 => if v6 = 0 then (f_X11_findWays_b48 k n x1 (x2 + 1) x3 s7) else (p_wr s7 (k + 5) 16 x1 (x2 / 4) (fun s8 => p_wr s8 (k + 6) 16 x1 (x2 - x2 / 4 * 4) (fun s9 => f_X11_findWays_b48 k n (x1 + 1) 0 (x3 ||| (1 <<< ((x2 / 4) &&& 31))) s9)))))))))))))
set_option maxRecDepth 100000 in
set_option maxHeartbeats 4000000 in
theorem k_X11_findWays_b48 {q : Mc} {E : En} {L : List Nat} {o : Int32 × Sg} (C : Cx q E L cX11_findWays 6 RX11 none (7)) (k : Nat) (hB : Bk L sh_AuntsPuzzleModel k) (n : Nat) : ∀ (x1 : Int32) (x2 : Int32) (x3 : Int32) (σ : Sg), f_X11_findWays_b48 k n x1 x2 x3 σ = some o → Vx q E L 6 none o 48 [(0, .ref (E.2.1 (k))), (1, .int x1), (2, .int x2), (3, .int x3)] [] σ := by
  induction n with
  | zero => intro x1 x2 x3 σ hf; cases (show (none : Rs) = some o from hf)
  | succ n ih =>
    intro x1 x2 x3 σ hf
    rw [f_X11_findWays_b48] at hf
    refine v_iload_n 48 C dX11_findWays_48 rfl rfl ?_
    refine v_if_lt (tgt := 299) 49 C dX11_findWays_49 (by decide) hf (fun hf => ?_) (fun hf => ?_)
    · exact Vx.lv [0] rfl (k_X11_findWays_b299 C k hB σ hf)
    · refine v_aload_n 52 C dX11_findWays_52 rfl rfl ?_
      refine v_getI (dum := 0) 53 C lk_X11_214 (hB 0 _ rfl) (by decide) rfl dX11_findWays_53 ?_
      refine v_sipush (v := 20000) 56 C dX11_findWays_56 (by decide) ?_
      refine v_icmp_gt (tgt := 299) 59 C dX11_findWays_59 (by decide) hf (fun hf => ?_) (fun hf => ?_)
      · exact Vx.lv [0] rfl (k_X11_findWays_b299 C k hB σ hf)
      · refine v_iload_n 62 C dX11_findWays_62 rfl rfl ?_
        refine v_aload_n 63 C dX11_findWays_63 rfl rfl ?_
        refine v_callV (st := [.int x1]) 64 C [] lm_X11_91 ly_X11_cells (hB 0 _ rfl) (by decide) dX11_findWays_64 rfl (by decide) rfl (Nat.le_of_ble_eq_true rfl) (fun o1 h1 => m_X11_cells k hB  σ o1 h1) hf (fun v1 s2 hf => ?_)
        refine v_icmp_eq (tgt := 80) 67 C dX11_findWays_67 (by decide) hf (fun hf => ?_) (fun hf => ?_)
        · exact Vx.lv [0, 1, 2, 3] rfl (k_X11_findWays_b80 C k hB (f_X11_findWays_b48 k n) ih x1 x2 x3 s2 hf)
        · refine v_iload_n 70 C dX11_findWays_70 rfl rfl ?_
          refine v_iconst (v := 4) 71 C dX11_findWays_71 (by decide) ?_
          refine v_aload_n 72 C dX11_findWays_72 rfl rfl ?_
          refine v_callV (st := [.int 4, .int x2]) 73 C [] lm_X11_91 ly_X11_cells (hB 0 _ rfl) (by decide) dX11_findWays_73 rfl (by decide) rfl (Nat.le_of_ble_eq_true rfl) (fun o1 h1 => m_X11_cells k hB  s2 o1 h1) hf (fun v3 s4 hf => ?_)
          refine v_imul 76 C dX11_findWays_76 ?_
          refine v_icmp_ne (tgt := 207) 77 C dX11_findWays_77 (by decide) hf (fun hf => ?_) (fun hf => ?_)
          · refine v_iload_n 207 C dX11_findWays_207 rfl rfl ?_
            refine v_iconst (v := 4) 208 C dX11_findWays_208 (by decide) ?_
            refine v_idiv_c 209 C dX11_findWays_209 (by decide) ?_
            refine v_istore (lv' := [(0, .ref (E.2.1 (k))), (1, .int x1), (2, .int x2), (3, .int x3), (4, .int (x2 / 4))]) 210 C dX11_findWays_210 (by decide) rfl rfl ?_
            refine v_iload_n 212 C dX11_findWays_212 rfl rfl ?_
            refine v_iconst (v := 4) 213 C dX11_findWays_213 (by decide) ?_
            refine v_irem_c 214 C dX11_findWays_214 (by decide) ?_
            refine v_istore (lv' := [(0, .ref (E.2.1 (k))), (1, .int x1), (2, .int x2), (3, .int x3), (4, .int (x2 / 4)), (5, .int (x2 - x2 / 4 * 4))]) 215 C dX11_findWays_215 (by decide) rfl rfl ?_
            refine v_iinc (v := x2 + 1) (lv' := [(0, .ref (E.2.1 (k))), (1, .int x1), (2, .int (x2 + 1)), (3, .int x3), (4, .int (x2 / 4)), (5, .int (x2 - x2 / 4 * 4))]) 217 C dX11_findWays_217 rfl (by rfl) (by decide) rfl rfl ?_
            refine v_iload_n 220 C dX11_findWays_220 rfl rfl ?_
            refine v_iload 221 C dX11_findWays_221 rfl ?_
            refine v_ishr 223 C dX11_findWays_223 ?_
            refine v_iconst (v := 1) 224 C dX11_findWays_224 (by decide) ?_
            refine v_iand 225 C dX11_findWays_225 ?_
            refine v_iconst (v := 1) 226 C dX11_findWays_226 (by decide) ?_
            refine v_icmp_ne (tgt := 233) 227 C dX11_findWays_227 (by decide) hf (fun hf => ?_) (fun hf => ?_)
            · refine v_aload_n 233 C dX11_findWays_233 rfl rfl ?_
              refine v_dup 234 C dX11_findWays_234 rfl ?_
              refine v_getI (dum := 0) 235 C lk_X11_214 (hB 0 _ rfl) (by decide) rfl dX11_findWays_235 ?_
              refine v_iconst (v := 1) 238 C dX11_findWays_238 (by decide) ?_
              refine v_iadd 239 C dX11_findWays_239 ?_
              refine v_putI 240 C lp_X11_214 (hB 0 _ rfl) (by decide) rfl dX11_findWays_240 hf (fun s5 hf => ?_)
              refine v_aload_n 243 C dX11_findWays_243 rfl rfl ?_
              refine v_getI (dum := 0) 244 C lk_X11_214 (hB 0 _ rfl) (by decide) rfl dX11_findWays_244 ?_
              refine v_sipush (v := 20000) 247 C dX11_findWays_247 (by decide) ?_
              refine v_icmp_gt (tgt := 48) 250 C dX11_findWays_250 (by decide) hf (fun hf => ?_) (fun hf => ?_)
              · exact Vx.lv [0, 1, 2, 3] rfl (ih x1 (x2 + 1) x3 s5 hf)
              · refine v_aload_n 253 C dX11_findWays_253 rfl rfl ?_
                refine v_iload 254 C dX11_findWays_254 rfl ?_
                refine v_iload 256 C dX11_findWays_256 rfl ?_
                refine v_iload_n 258 C dX11_findWays_258 rfl rfl ?_
                refine v_callV (st := []) 259 C [.int (x2 / 4), .int (x2 - x2 / 4 * 4), .int x1] lm_X11_181 ly_X11_doesFit (hB 0 _ rfl) (by decide) dX11_findWays_259 rfl (by decide) rfl (Nat.le_of_ble_eq_true rfl) (fun o1 h1 => m_X11_doesFit k hB (x2 / 4) (x2 - x2 / 4 * 4) x1 s5 o1 h1) hf (fun v6 s7 hf => ?_)
                refine v_if_ne (tgt := 268) 262 C dX11_findWays_262 (by decide) hf (fun hf => ?_) (fun hf => ?_)
                · refine v_aload_n 268 C dX11_findWays_268 rfl rfl ?_
                  refine v_getR 269 C lk_X11_22 (hB 0 _ rfl) (by decide) rfl dX11_findWays_269 ?_
                  refine v_iload_n 272 C dX11_findWays_272 rfl rfl ?_
                  refine v_iload 273 C dX11_findWays_273 rfl ?_
                  refine v_iast 275 C (hB 5 _ rfl) dX11_findWays_275 hf (fun s8 hf => ?_)
                  refine v_aload_n 276 C dX11_findWays_276 rfl rfl ?_
                  refine v_getR 277 C lk_X11_25 (hB 0 _ rfl) (by decide) rfl dX11_findWays_277 ?_
                  refine v_iload_n 280 C dX11_findWays_280 rfl rfl ?_
                  refine v_iload 281 C dX11_findWays_281 rfl ?_
                  refine v_iast 283 C (hB 6 _ rfl) dX11_findWays_283 hf (fun s9 hf => ?_)
                  refine v_iload_n 284 C dX11_findWays_284 rfl rfl ?_
                  refine v_iconst (v := 1) 285 C dX11_findWays_285 (by decide) ?_
                  refine v_iload 286 C dX11_findWays_286 rfl ?_
                  refine v_ishl 288 C dX11_findWays_288 ?_
                  refine v_ior 289 C dX11_findWays_289 ?_
                  refine v_istore_n (lv' := [(0, .ref (E.2.1 (k))), (1, .int x1), (2, .int (x2 + 1)), (3, .int (x3 ||| (1 <<< ((x2 / 4) &&& 31)))), (4, .int (x2 / 4)), (5, .int (x2 - x2 / 4 * 4))]) 290 C dX11_findWays_290 rfl (by decide) rfl rfl ?_
                  refine v_iinc (v := x1 + 1) (lv' := [(0, .ref (E.2.1 (k))), (1, .int (x1 + 1)), (2, .int (x2 + 1)), (3, .int (x3 ||| (1 <<< ((x2 / 4) &&& 31)))), (4, .int (x2 / 4)), (5, .int (x2 - x2 / 4 * 4))]) 291 C dX11_findWays_291 rfl (by rfl) (by decide) rfl rfl ?_
                  refine v_iconst (v := 0) 294 C dX11_findWays_294 (by decide) ?_
                  refine v_istore_n (lv' := [(0, .ref (E.2.1 (k))), (1, .int (x1 + 1)), (2, .int 0), (3, .int (x3 ||| (1 <<< ((x2 / 4) &&& 31)))), (4, .int (x2 / 4)), (5, .int (x2 - x2 / 4 * 4))]) 295 C dX11_findWays_295 rfl (by decide) rfl rfl ?_
                  refine v_goto (tgt := 48) 296 C dX11_findWays_296 (by decide) ?_
                  exact Vx.lv [0, 1, 2, 3] rfl (ih (x1 + 1) 0 (x3 ||| (1 <<< ((x2 / 4) &&& 31))) s9 hf)
                · refine v_goto (tgt := 48) 265 C dX11_findWays_265 (by decide) ?_
                  exact Vx.lv [0, 1, 2, 3] rfl (ih x1 (x2 + 1) x3 s7 hf)
            · refine v_goto (tgt := 48) 230 C dX11_findWays_230 (by decide) ?_
              exact Vx.lv [0, 1, 2, 3] rfl (ih x1 (x2 + 1) x3 s4 hf)
          · exact Vx.lv [0, 1, 2, 3] rfl (k_X11_findWays_b80 C k hB (f_X11_findWays_b48 k n) ih x1 x2 x3 s4 hf)
def f_X11_findWays_b8 (k : Nat)  : Nat → Int32 → Sg → Rs
  | 0, _, _ => none
  | n + 1, x1, σ => if 16 ≤ x1 then (p_put σ (k) 30 0 (fun s1 => p_put s1 (k) 31 0 (fun s2 => p_bo 0 (p_put s2 (k) 32 0 (fun s3 => f_X11_findWays_b48 k fu 0 0 0 s3))))) else (p_wr σ (k + 5) 16 x1 (-1) (fun s4 => f_X11_findWays_b8 k n (x1 + 1) s4))
set_option maxRecDepth 100000 in
set_option maxHeartbeats 4000000 in
theorem k_X11_findWays_b8 {q : Mc} {E : En} {L : List Nat} {o : Int32 × Sg} (C : Cx q E L cX11_findWays 6 RX11 none (7)) (k : Nat) (hB : Bk L sh_AuntsPuzzleModel k) (n : Nat) : ∀ (x1 : Int32) (σ : Sg), f_X11_findWays_b8 k n x1 σ = some o → Vx q E L 6 none o 8 [(0, .ref (E.2.1 (k))), (1, .int x1)] [] σ := by
  induction n with
  | zero => intro x1 σ hf; cases (show (none : Rs) = some o from hf)
  | succ n ih =>
    intro x1 σ hf
    rw [f_X11_findWays_b8] at hf
    refine v_iload_n 8 C dX11_findWays_8 rfl rfl ?_
    refine v_bipush (v := 16) 9 C dX11_findWays_9 (by decide) ?_
    refine v_icmp_ge (tgt := 27) 11 C dX11_findWays_11 (by decide) hf (fun hf => ?_) (fun hf => ?_)
    · refine v_aload_n 27 C dX11_findWays_27 rfl rfl ?_
      refine v_iconst (v := 0) 28 C dX11_findWays_28 (by decide) ?_
      refine v_putI 29 C lp_X11_211 (hB 0 _ rfl) (by decide) rfl dX11_findWays_29 hf (fun s1 hf => ?_)
      refine v_aload_n 32 C dX11_findWays_32 rfl rfl ?_
      refine v_iconst (v := 0) 33 C dX11_findWays_33 (by decide) ?_
      refine v_putI 34 C lp_X11_214 (hB 0 _ rfl) (by decide) rfl dX11_findWays_34 hf (fun s2 hf => ?_)
      refine v_aload_n 37 C dX11_findWays_37 rfl rfl ?_
      refine v_iconst (v := 0) 38 C dX11_findWays_38 (by decide) ?_
      refine v_putZ 39 C lp_X11_217 (hB 0 _ rfl) (by decide) rfl dX11_findWays_39 hf (fun s3 hf => ?_)
      refine v_iconst (v := 0) 42 C dX11_findWays_42 (by decide) ?_
      refine v_istore_n (lv' := [(0, .ref (E.2.1 (k))), (1, .int 0)]) 43 C dX11_findWays_43 rfl (by decide) rfl rfl ?_
      refine v_iconst (v := 0) 44 C dX11_findWays_44 (by decide) ?_
      refine v_istore_n (lv' := [(0, .ref (E.2.1 (k))), (1, .int 0), (2, .int 0)]) 45 C dX11_findWays_45 rfl (by decide) rfl rfl ?_
      refine v_iconst (v := 0) 46 C dX11_findWays_46 (by decide) ?_
      refine v_istore_n (lv' := [(0, .ref (E.2.1 (k))), (1, .int 0), (2, .int 0), (3, .int 0)]) 47 C dX11_findWays_47 rfl (by decide) rfl rfl ?_
      exact Vx.lv [0, 1, 2, 3] rfl (k_X11_findWays_b48 C k hB fu 0 0 0 s3 hf)
    · refine v_aload_n 14 C dX11_findWays_14 rfl rfl ?_
      refine v_getR 15 C lk_X11_22 (hB 0 _ rfl) (by decide) rfl dX11_findWays_15 ?_
      refine v_iload_n 18 C dX11_findWays_18 rfl rfl ?_
      refine v_iconst (v := (-1)) 19 C dX11_findWays_19 (by decide) ?_
      refine v_iast 20 C (hB 5 _ rfl) dX11_findWays_20 hf (fun s4 hf => ?_)
      refine v_iinc (v := x1 + 1) (lv' := [(0, .ref (E.2.1 (k))), (1, .int (x1 + 1))]) 21 C dX11_findWays_21 rfl (by rfl) (by decide) rfl rfl ?_
      refine v_goto (tgt := 8) 24 C dX11_findWays_24 (by decide) ?_
      exact Vx.lv [0, 1] rfl (ih (x1 + 1) s4 hf)
def f_X11_findWays (k : Nat) (σ : Sg) : Rs := p_call (f_X11_passesAll k 1 1 σ) (fun v1 s2 => f_X11_findWays_b8 k fu 0 s2)
set_option maxRecDepth 100000 in
set_option maxHeartbeats 4000000 in
theorem k_X11_findWays_b0 {q : Mc} {E : En} {L : List Nat} {o : Int32 × Sg} (C : Cx q E L cX11_findWays 6 RX11 none (7)) (k : Nat) (hB : Bk L sh_AuntsPuzzleModel k) (σ : Sg) (hf : f_X11_findWays k σ = some o) : Vx q E L 6 none o 0 [(0, .ref (E.2.1 (k)))] [] σ := by
  unfold f_X11_findWays at hf
  refine v_aload_n 0 C dX11_findWays_0 rfl rfl ?_
  refine v_iconst (v := 1) 1 C dX11_findWays_1 (by decide) ?_
  refine v_iconst (v := 1) 2 C dX11_findWays_2 (by decide) ?_
  refine v_callV (st := []) 3 C [.int 1, .int 1] lm_X11_151 ly_X11_passesAll (hB 0 _ rfl) (by decide) dX11_findWays_3 rfl (by decide) rfl (Nat.le_of_ble_eq_true rfl) (fun o1 h1 => m_X11_passesAll k hB 1 1 σ o1 h1) hf (fun v1 s2 hf => ?_)
  refine v_iconst (v := 0) 6 C dX11_findWays_6 (by decide) ?_
  refine v_istore_n (lv' := [(0, .ref (E.2.1 (k))), (1, .int 0)]) 7 C dX11_findWays_7 rfl (by decide) rfl rfl ?_
  exact Vx.lv [0, 1] rfl (k_X11_findWays_b8 C k hB fu 0 s2 hf)
theorem m_X11_findWays {l : Launch} {E : En} {L : List Nat} (k : Nat) (hB : Bk L sh_AuntsPuzzleModel k) (σ : Sg) (o : Int32 × Sg) (hf : f_X11_findWays k σ = some o) : Mi l yX11_findWays cX11_findWays 6 none (7) E L [.ref (E.2.1 (k))] σ o :=
  Mi.of RX11 rfl (by decide) (Nat.le_of_ble_eq_true rfl) (fun q hq C => by subst hq; exact k_X11_findWays_b0 C k hB  σ hf)
def f_X11_ways (k : Nat) (x1 : Int32) (σ : Sg) : Rs := p_call (f_X11_isIn x1 0 1 σ) (fun v1 s2 => if v1 = 0 then (p_call (f_X11_no k (-2) s2) (fun v5 s6 => some (v5, s6))) else (p_call (f_X11_findWays k s2) (fun v3 s4 => if x1 = 1 then (some (s4 (k) 31, s4)) else (if (s4 (k) 31) ≤ 20000 then (some (s4 (k) 30, s4)) else (some ((-9), s4))))))
set_option maxRecDepth 100000 in
set_option maxHeartbeats 4000000 in
theorem k_X11_ways_b0 {q : Mc} {E : En} {L : List Nat} {o : Int32 × Sg} (C : Cx q E L cX11_ways 2 RX11 (some .int) (8)) (k : Nat) (hB : Bk L sh_AuntsPuzzleModel k) (x1 : Int32) (σ : Sg) (hf : f_X11_ways k x1 σ = some o) : Vx q E L 2 (some .int) o 0 [(0, .ref (E.2.1 (k))), (1, .int x1)] [] σ := by
  unfold f_X11_ways at hf
  refine v_iload_n 0 C dX11_ways_0 rfl rfl ?_
  refine v_iconst (v := 0) 1 C dX11_ways_1 (by decide) ?_
  refine v_iconst (v := 1) 2 C dX11_ways_2 (by decide) ?_
  refine v_callS (st := []) 3 C [.int x1, .int 0, .int 1] lm_X11_124 lz_X11_isIn dX11_ways_3 rfl (by decide) rfl (Nat.le_of_ble_eq_true rfl) (fun o1 h1 => m_X11_isIn   x1 0 1 σ o1 h1) hf (fun v1 s2 hf => ?_)
  refine v_if_ne (tgt := 16) 6 C dX11_ways_6 (by decide) hf (fun hf => ?_) (fun hf => ?_)
  · refine v_aload_n 16 C dX11_ways_16 rfl rfl ?_
    refine v_callV (st := []) 17 C [] lm_X11_220 ly_X11_findWays (hB 0 _ rfl) (by decide) dX11_ways_17 rfl (by decide) rfl (Nat.le_of_ble_eq_true rfl) (fun o1 h1 => m_X11_findWays k hB  s2 o1 h1) hf (fun v3 s4 hf => ?_)
    refine v_iload_n 20 C dX11_ways_20 rfl rfl ?_
    refine v_iconst (v := 1) 21 C dX11_ways_21 (by decide) ?_
    refine v_icmp_ne (tgt := 32) 22 C dX11_ways_22 (by decide) hf (fun hf => ?_) (fun hf => ?_)
    · refine v_aload_n 32 C dX11_ways_32 rfl rfl ?_
      refine v_getI (dum := 0) 33 C lk_X11_214 (hB 0 _ rfl) (by decide) rfl dX11_ways_33 ?_
      refine v_sipush (v := 20000) 36 C dX11_ways_36 (by decide) ?_
      refine v_icmp_le (tgt := 47) 39 C dX11_ways_39 (by decide) hf (fun hf => ?_) (fun hf => ?_)
      · refine v_aload_n 47 C dX11_ways_47 rfl rfl ?_
        refine v_getI (dum := 0) 48 C lk_X11_211 (hB 0 _ rfl) (by decide) rfl dX11_ways_48 ?_
        exact v_iret 51 C rfl dX11_ways_51 hf
      · refine v_bipush (v := (-9)) 42 C dX11_ways_42 (by decide) ?_
        refine v_goto (tgt := 51) 44 C dX11_ways_44 (by decide) ?_
        exact v_iret 51 C rfl dX11_ways_51 hf
    · refine v_aload_n 25 C dX11_ways_25 rfl rfl ?_
      refine v_getI (dum := 0) 26 C lk_X11_214 (hB 0 _ rfl) (by decide) rfl dX11_ways_26 ?_
      refine v_goto (tgt := 51) 29 C dX11_ways_29 (by decide) ?_
      exact v_iret 51 C rfl dX11_ways_51 hf
  · refine v_aload_n 9 C dX11_ways_9 rfl rfl ?_
    refine v_bipush (v := (-2)) 10 C dX11_ways_10 (by decide) ?_
    refine v_callV (st := []) 12 C [.int (-2)] lm_X11_112 ly_X11_no (hB 0 _ rfl) (by decide) dX11_ways_12 rfl (by decide) rfl (Nat.le_of_ble_eq_true rfl) (fun o1 h1 => m_X11_no k hB (-2) s2 o1 h1) hf (fun v5 s6 hf => ?_)
    exact v_iret 15 C rfl dX11_ways_15 hf
theorem m_X11_ways {l : Launch} {E : En} {L : List Nat} (k : Nat) (hB : Bk L sh_AuntsPuzzleModel k) (x1 : Int32) (σ : Sg) (o : Int32 × Sg) (hf : f_X11_ways k x1 σ = some o) : Mi l yX11_ways cX11_ways 2 (some .int) (8) E L [.ref (E.2.1 (k)), .int x1] σ o :=
  Mi.of RX11 rfl (by decide) (Nat.le_of_ble_eq_true rfl) (fun q hq C => by subst hq; exact k_X11_ways_b0 C k hB x1 σ hf)
def f_X11_first (k : Nat) (x1 : Int32) (x2 : Int32) (σ : Sg) : Rs := p_call (f_X11_isCell k x1 σ) (fun v1 s2 => if v1 = 0 then (p_call (f_X11_no k (-1) s2) (fun v11 s12 => some (v11, s12))) else (p_call (f_X11_isIn x2 0 1 s2) (fun v3 s4 => if v3 = 0 then (p_call (f_X11_no k (-2) s4) (fun v9 s10 => some (v9, s10))) else (p_call (f_X11_findWays k s4) (fun v5 s6 => if (s6 (k) 32) = 0 then (some ((-9), s6)) else (if x2 = 0 then (p_rd s6 (k + 19) 16 x1 (fun v8 => some (v8, s6))) else (p_rd s6 (k + 20) 16 x1 (fun v7 => some (v7, s6)))))))))
set_option maxRecDepth 100000 in
set_option maxHeartbeats 4000000 in
theorem k_X11_first_b0 {q : Mc} {E : En} {L : List Nat} {o : Int32 × Sg} (C : Cx q E L cX11_first 3 RX11 (some .int) (8)) (k : Nat) (hB : Bk L sh_AuntsPuzzleModel k) (x1 : Int32) (x2 : Int32) (σ : Sg) (hf : f_X11_first k x1 x2 σ = some o) : Vx q E L 3 (some .int) o 0 [(0, .ref (E.2.1 (k))), (1, .int x1), (2, .int x2)] [] σ := by
  unfold f_X11_first at hf
  refine v_aload_n 0 C dX11_first_0 rfl rfl ?_
  refine v_iload_n 1 C dX11_first_1 rfl rfl ?_
  refine v_callV (st := []) 2 C [.int x1] lm_X11_144 ly_X11_isCell (hB 0 _ rfl) (by decide) dX11_first_2 rfl (by decide) rfl (Nat.le_of_ble_eq_true rfl) (fun o1 h1 => m_X11_isCell k hB x1 σ o1 h1) hf (fun v1 s2 hf => ?_)
  refine v_if_ne (tgt := 14) 5 C dX11_first_5 (by decide) hf (fun hf => ?_) (fun hf => ?_)
  · refine v_iload_n 14 C dX11_first_14 rfl rfl ?_
    refine v_iconst (v := 0) 15 C dX11_first_15 (by decide) ?_
    refine v_iconst (v := 1) 16 C dX11_first_16 (by decide) ?_
    refine v_callS (st := []) 17 C [.int x2, .int 0, .int 1] lm_X11_124 lz_X11_isIn dX11_first_17 rfl (by decide) rfl (Nat.le_of_ble_eq_true rfl) (fun o1 h1 => m_X11_isIn   x2 0 1 s2 o1 h1) hf (fun v3 s4 hf => ?_)
    refine v_if_ne (tgt := 30) 20 C dX11_first_20 (by decide) hf (fun hf => ?_) (fun hf => ?_)
    · refine v_aload_n 30 C dX11_first_30 rfl rfl ?_
      refine v_callV (st := []) 31 C [] lm_X11_220 ly_X11_findWays (hB 0 _ rfl) (by decide) dX11_first_31 rfl (by decide) rfl (Nat.le_of_ble_eq_true rfl) (fun o1 h1 => m_X11_findWays k hB  s4 o1 h1) hf (fun v5 s6 hf => ?_)
      refine v_aload_n 34 C dX11_first_34 rfl rfl ?_
      refine v_getI (dum := 0) 35 C lk_X11_217 (hB 0 _ rfl) (by decide) rfl dX11_first_35 ?_
      refine v_if_ne (tgt := 46) 38 C dX11_first_38 (by decide) hf (fun hf => ?_) (fun hf => ?_)
      · refine v_iload_n 46 C dX11_first_46 rfl rfl ?_
        refine v_if_ne (tgt := 59) 47 C dX11_first_47 (by decide) hf (fun hf => ?_) (fun hf => ?_)
        · refine v_aload_n 59 C dX11_first_59 rfl rfl ?_
          refine v_getR 60 C lk_X11_67 (hB 0 _ rfl) (by decide) rfl dX11_first_60 ?_
          refine v_iload_n 63 C dX11_first_63 rfl rfl ?_
          refine v_iald 64 C (hB 20 _ rfl) dX11_first_64 hf (fun v7 hf => ?_)
          exact v_iret 65 C rfl dX11_first_65 hf
        · refine v_aload_n 50 C dX11_first_50 rfl rfl ?_
          refine v_getR 51 C lk_X11_64 (hB 0 _ rfl) (by decide) rfl dX11_first_51 ?_
          refine v_iload_n 54 C dX11_first_54 rfl rfl ?_
          refine v_iald 55 C (hB 19 _ rfl) dX11_first_55 hf (fun v8 hf => ?_)
          refine v_goto (tgt := 65) 56 C dX11_first_56 (by decide) ?_
          exact v_iret 65 C rfl dX11_first_65 hf
      · refine v_bipush (v := (-9)) 41 C dX11_first_41 (by decide) ?_
        refine v_goto (tgt := 65) 43 C dX11_first_43 (by decide) ?_
        exact v_iret 65 C rfl dX11_first_65 hf
    · refine v_aload_n 23 C dX11_first_23 rfl rfl ?_
      refine v_bipush (v := (-2)) 24 C dX11_first_24 (by decide) ?_
      refine v_callV (st := []) 26 C [.int (-2)] lm_X11_112 ly_X11_no (hB 0 _ rfl) (by decide) dX11_first_26 rfl (by decide) rfl (Nat.le_of_ble_eq_true rfl) (fun o1 h1 => m_X11_no k hB (-2) s4 o1 h1) hf (fun v9 s10 hf => ?_)
      exact v_iret 29 C rfl dX11_first_29 hf
  · refine v_aload_n 8 C dX11_first_8 rfl rfl ?_
    refine v_iconst (v := (-1)) 9 C dX11_first_9 (by decide) ?_
    refine v_callV (st := []) 10 C [.int (-1)] lm_X11_112 ly_X11_no (hB 0 _ rfl) (by decide) dX11_first_10 rfl (by decide) rfl (Nat.le_of_ble_eq_true rfl) (fun o1 h1 => m_X11_no k hB (-1) s2 o1 h1) hf (fun v11 s12 hf => ?_)
    exact v_iret 13 C rfl dX11_first_13 hf
theorem m_X11_first {l : Launch} {E : En} {L : List Nat} (k : Nat) (hB : Bk L sh_AuntsPuzzleModel k) (x1 : Int32) (x2 : Int32) (σ : Sg) (o : Int32 × Sg) (hf : f_X11_first k x1 x2 σ = some o) : Mi l yX11_first cX11_first 3 (some .int) (8) E L [.ref (E.2.1 (k)), .int x1, .int x2] σ o :=
  Mi.of RX11 rfl (by decide) (Nat.le_of_ble_eq_true rfl) (fun q hq C => by subst hq; exact k_X11_first_b0 C k hB x1 x2 σ hf)
