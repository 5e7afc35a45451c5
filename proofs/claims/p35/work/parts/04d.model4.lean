/-! printed by wip/whole/gen/gen.py: methods as pure functions, and that the machine does them -/
def f_X11_seemsOf_b147 (k : Nat) (r4 : Int32 → Int32 → Sg → Rs) (r16 : Int32 → Int32 → Int32 → Sg → Rs) (x1 : Int32) (x2 : Int32) (x3 : Int32) (σ : Sg) : Rs := r16 x1 x2 (x3 + 1) σ
set_option maxRecDepth 100000 in
set_option maxHeartbeats 4000000 in
theorem k_X11_seemsOf_b147 {q : Mc} {E : En} {L : List Nat} {o : Int32 × Sg} (C : Cx q E L cX11_seemsOf 7 RX11 (some .int) (4)) (k : Nat) (hB : Bk L sh_AuntsPuzzleModel k) (r4 : Int32 → Int32 → Sg → Rs) (hr4 : ∀ (x1 : Int32) (x2 : Int32) (σ : Sg), r4 x1 x2 σ = some o → Vx q E L 7 (some .int) o 4 [(0, .ref (E.2.1 (k))), (1, .int x1), (2, .int x2)] [] σ) (r16 : Int32 → Int32 → Int32 → Sg → Rs) (hr16 : ∀ (x1 : Int32) (x2 : Int32) (x3 : Int32) (σ : Sg), r16 x1 x2 x3 σ = some o → Vx q E L 7 (some .int) o 16 [(0, .ref (E.2.1 (k))), (1, .int x1), (2, .int x2), (3, .int x3)] [] σ) (x1 : Int32) (x2 : Int32) (x3 : Int32) (σ : Sg) (hf : f_X11_seemsOf_b147 k r4 r16 x1 x2 x3 σ = some o) : Vx q E L 7 (some .int) o 147 [(0, .ref (E.2.1 (k))), (1, .int x1), (2, .int x2), (3, .int x3)] [] σ := by
  unfold f_X11_seemsOf_b147 at hf
  refine v_iinc (v := x3 + 1) (lv' := [(0, .ref (E.2.1 (k))), (1, .int x1), (2, .int x2), (3, .int (x3 + 1))]) 147 C dX11_seemsOf_147 rfl (by rfl) (by decide) rfl rfl ?_
  refine v_goto (tgt := 16) 150 C dX11_seemsOf_150 (by decide) ?_
  exact Vx.lv [0, 1, 2, 3] rfl (hr16 x1 x2 (x3 + 1) σ hf)
def f_X11_seemsOf_b133 (k : Nat) (r4 : Int32 → Int32 → Sg → Rs) (r16 : Int32 → Int32 → Int32 → Sg → Rs) (r50 : Int32 → Int32 → Int32 → Int32 → Sg → Rs) (r59 : Int32 → Int32 → Int32 → Int32 → Int32 → Sg → Rs) (x2 : Int32) (x3 : Int32) (x4 : Int32) (x5 : Int32) (t0 : Int32) (t1 : Int32) (σ : Sg) : Rs := r59 (t0 + t1) x2 x3 x4 (x5 + 1) σ
set_option maxRecDepth 100000 in
set_option maxHeartbeats 4000000 in
theorem k_X11_seemsOf_b133 {q : Mc} {E : En} {L : List Nat} {o : Int32 × Sg} (C : Cx q E L cX11_seemsOf 7 RX11 (some .int) (4)) (k : Nat) (hB : Bk L sh_AuntsPuzzleModel k) (r4 : Int32 → Int32 → Sg → Rs) (hr4 : ∀ (x1 : Int32) (x2 : Int32) (σ : Sg), r4 x1 x2 σ = some o → Vx q E L 7 (some .int) o 4 [(0, .ref (E.2.1 (k))), (1, .int x1), (2, .int x2)] [] σ) (r16 : Int32 → Int32 → Int32 → Sg → Rs) (hr16 : ∀ (x1 : Int32) (x2 : Int32) (x3 : Int32) (σ : Sg), r16 x1 x2 x3 σ = some o → Vx q E L 7 (some .int) o 16 [(0, .ref (E.2.1 (k))), (1, .int x1), (2, .int x2), (3, .int x3)] [] σ) (r50 : Int32 → Int32 → Int32 → Int32 → Sg → Rs) (hr50 : ∀ (x1 : Int32) (x2 : Int32) (x3 : Int32) (x4 : Int32) (σ : Sg), r50 x1 x2 x3 x4 σ = some o → Vx q E L 7 (some .int) o 50 [(0, .ref (E.2.1 (k))), (1, .int x1), (2, .int x2), (3, .int x3), (4, .int x4)] [] σ) (r59 : Int32 → Int32 → Int32 → Int32 → Int32 → Sg → Rs) (hr59 : ∀ (x1 : Int32) (x2 : Int32) (x3 : Int32) (x4 : Int32) (x5 : Int32) (σ : Sg), r59 x1 x2 x3 x4 x5 σ = some o → Vx q E L 7 (some .int) o 59 [(0, .ref (E.2.1 (k))), (1, .int x1), (2, .int x2), (3, .int x3), (4, .int x4), (5, .int x5)] [] σ) (x2 : Int32) (x3 : Int32) (x4 : Int32) (x5 : Int32) (t0 : Int32) (t1 : Int32) (σ : Sg) (hf : f_X11_seemsOf_b133 k r4 r16 r50 r59 x2 x3 x4 x5 t0 t1 σ = some o) : Vx q E L 7 (some .int) o 133 [(0, .ref (E.2.1 (k))), (2, .int x2), (3, .int x3), (4, .int x4), (5, .int x5)] [.int t1, .int t0] σ := by
  unfold f_X11_seemsOf_b133 at hf
  refine v_iadd 133 C dX11_seemsOf_133 ?_
  refine v_istore_n (lv' := [(0, .ref (E.2.1 (k))), (2, .int x2), (3, .int x3), (4, .int x4), (5, .int x5), (1, .int (t0 + t1))]) 134 C dX11_seemsOf_134 rfl (by decide) rfl rfl ?_
  refine v_iinc (v := x5 + 1) (lv' := [(0, .ref (E.2.1 (k))), (2, .int x2), (3, .int x3), (4, .int x4), (5, .int (x5 + 1)), (1, .int (t0 + t1))]) 135 C dX11_seemsOf_135 rfl (by rfl) (by decide) rfl rfl ?_
  refine v_goto (tgt := 59) 138 C dX11_seemsOf_138 (by decide) ?_
  exact Vx.lv [0, 5, 1, 2, 3, 4] rfl (hr59 (t0 + t1) x2 x3 x4 (x5 + 1) σ hf)
def f_X11_seemsOf_b132 (k : Nat) (r4 : Int32 → Int32 → Sg → Rs) (r16 : Int32 → Int32 → Int32 → Sg → Rs) (r50 : Int32 → Int32 → Int32 → Int32 → Sg → Rs) (r59 : Int32 → Int32 → Int32 → Int32 → Int32 → Sg → Rs) (x2 : Int32) (x3 : Int32) (x4 : Int32) (x5 : Int32) (t0 : Int32) (σ : Sg) : Rs := f_X11_seemsOf_b133 k r4 r16 r50 r59 x2 x3 x4 x5 t0 0 σ
set_option maxRecDepth 100000 in
set_option maxHeartbeats 4000000 in
theorem k_X11_seemsOf_b132 {q : Mc} {E : En} {L : List Nat} {o : Int32 × Sg} (C : Cx q E L cX11_seemsOf 7 RX11 (some .int) (4)) (k : Nat) (hB : Bk L sh_AuntsPuzzleModel k) (r4 : Int32 → Int32 → Sg → Rs) (hr4 : ∀ (x1 : Int32) (x2 : Int32) (σ : Sg), r4 x1 x2 σ = some o → Vx q E L 7 (some .int) o 4 [(0, .ref (E.2.1 (k))), (1, .int x1), (2, .int x2)] [] σ) (r16 : Int32 → Int32 → Int32 → Sg → Rs) (hr16 : ∀ (x1 : Int32) (x2 : Int32) (x3 : Int32) (σ : Sg), r16 x1 x2 x3 σ = some o → Vx q E L 7 (some .int) o 16 [(0, .ref (E.2.1 (k))), (1, .int x1), (2, .int x2), (3, .int x3)] [] σ) (r50 : Int32 → Int32 → Int32 → Int32 → Sg → Rs) (hr50 : ∀ (x1 : Int32) (x2 : Int32) (x3 : Int32) (x4 : Int32) (σ : Sg), r50 x1 x2 x3 x4 σ = some o → Vx q E L 7 (some .int) o 50 [(0, .ref (E.2.1 (k))), (1, .int x1), (2, .int x2), (3, .int x3), (4, .int x4)] [] σ) (r59 : Int32 → Int32 → Int32 → Int32 → Int32 → Sg → Rs) (hr59 : ∀ (x1 : Int32) (x2 : Int32) (x3 : Int32) (x4 : Int32) (x5 : Int32) (σ : Sg), r59 x1 x2 x3 x4 x5 σ = some o → Vx q E L 7 (some .int) o 59 [(0, .ref (E.2.1 (k))), (1, .int x1), (2, .int x2), (3, .int x3), (4, .int x4), (5, .int x5)] [] σ) (x2 : Int32) (x3 : Int32) (x4 : Int32) (x5 : Int32) (t0 : Int32) (σ : Sg) (hf : f_X11_seemsOf_b132 k r4 r16 r50 r59 x2 x3 x4 x5 t0 σ = some o) : Vx q E L 7 (some .int) o 132 [(0, .ref (E.2.1 (k))), (2, .int x2), (3, .int x3), (4, .int x4), (5, .int x5)] [.int t0] σ := by
  unfold f_X11_seemsOf_b132 at hf
  refine v_iconst (v := 0) 132 C dX11_seemsOf_132 (by decide) ?_
  exact Vx.lv [0, 1, 2, 3, 4] rfl (k_X11_seemsOf_b133 C k hB r4 hr4 r16 hr16 r50 hr50 r59 hr59 x2 x3 x4 x5 t0 0 σ hf)
def f_X11_seemsOf_b92 (k : Nat) (r4 : Int32 → Int32 → Sg → Rs) (r16 : Int32 → Int32 → Int32 → Sg → Rs) (r50 : Int32 → Int32 → Int32 → Int32 → Sg → Rs) (r59 : Int32 → Int32 → Int32 → Int32 → Int32 → Sg → Rs) (x1 : Int32) (x2 : Int32) (x3 : Int32) (x4 : Int32) (x5 : Int32) (t0 : Int32) (σ : Sg) : Rs := if t0 = 0 then (p_call (f_X11_sideOf k x2 x4 σ) (fun v1 s2 => if v1 = 0 then (f_X11_seemsOf_b132 k r4 r16 r50 r59 x2 x3 x4 x5 x1 s2) else (p_call (f_X11_sideOf k x2 x4 s2) (fun v3 s4 => p_call (f_X11_sideOf k x3 x5 s4) (fun v5 s6 => if (v3 + v5) = 0 then (f_X11_seemsOf_b133 k r4 r16 r50 r59 x2 x3 x4 x5 x1 1 s6) else (f_X11_seemsOf_b132 k r4 r16 r50 r59 x2 x3 x4 x5 x1 s6)))))) else (f_X11_seemsOf_b132 k r4 r16 r50 r59 x2 x3 x4 x5 x1 σ)
set_option maxRecDepth 100000 in
set_option maxHeartbeats 4000000 in
theorem k_X11_seemsOf_b92 {q : Mc} {E : En} {L : List Nat} {o : Int32 × Sg} (C : Cx q E L cX11_seemsOf 7 RX11 (some .int) (4)) (k : Nat) (hB : Bk L sh_AuntsPuzzleModel k) (r4 : Int32 → Int32 → Sg → Rs) (hr4 : ∀ (x1 : Int32) (x2 : Int32) (σ : Sg), r4 x1 x2 σ = some o → Vx q E L 7 (some .int) o 4 [(0, .ref (E.2.1 (k))), (1, .int x1), (2, .int x2)] [] σ) (r16 : Int32 → Int32 → Int32 → Sg → Rs) (hr16 : ∀ (x1 : Int32) (x2 : Int32) (x3 : Int32) (σ : Sg), r16 x1 x2 x3 σ = some o → Vx q E L 7 (some .int) o 16 [(0, .ref (E.2.1 (k))), (1, .int x1), (2, .int x2), (3, .int x3)] [] σ) (r50 : Int32 → Int32 → Int32 → Int32 → Sg → Rs) (hr50 : ∀ (x1 : Int32) (x2 : Int32) (x3 : Int32) (x4 : Int32) (σ : Sg), r50 x1 x2 x3 x4 σ = some o → Vx q E L 7 (some .int) o 50 [(0, .ref (E.2.1 (k))), (1, .int x1), (2, .int x2), (3, .int x3), (4, .int x4)] [] σ) (r59 : Int32 → Int32 → Int32 → Int32 → Int32 → Sg → Rs) (hr59 : ∀ (x1 : Int32) (x2 : Int32) (x3 : Int32) (x4 : Int32) (x5 : Int32) (σ : Sg), r59 x1 x2 x3 x4 x5 σ = some o → Vx q E L 7 (some .int) o 59 [(0, .ref (E.2.1 (k))), (1, .int x1), (2, .int x2), (3, .int x3), (4, .int x4), (5, .int x5)] [] σ) (x1 : Int32) (x2 : Int32) (x3 : Int32) (x4 : Int32) (x5 : Int32) (t0 : Int32) (σ : Sg) (hf : f_X11_seemsOf_b92 k r4 r16 r50 r59 x1 x2 x3 x4 x5 t0 σ = some o) : Vx q E L 7 (some .int) o 92 [(0, .ref (E.2.1 (k))), (1, .int x1), (2, .int x2), (3, .int x3), (4, .int x4), (5, .int x5)] [.int t0] σ := by
  unfold f_X11_seemsOf_b92 at hf
  refine v_istore (lv' := [(0, .ref (E.2.1 (k))), (1, .int x1), (2, .int x2), (3, .int x3), (4, .int x4), (5, .int x5), (6, .int t0)]) 92 C dX11_seemsOf_92 (by decide) rfl rfl ?_
  refine v_iload_n 94 C dX11_seemsOf_94 rfl rfl ?_
  refine v_iload 95 C dX11_seemsOf_95 rfl ?_
  refine v_if_ne (tgt := 132) 97 C dX11_seemsOf_97 (by decide) hf (fun hf => ?_) (fun hf => ?_)
  · exact Vx.lv [0, 2, 3, 4, 5] rfl (k_X11_seemsOf_b132 C k hB r4 hr4 r16 hr16 r50 hr50 r59 hr59 x2 x3 x4 x5 x1 σ hf)
  · refine v_aload_n 100 C dX11_seemsOf_100 rfl rfl ?_
    refine v_iload_n 101 C dX11_seemsOf_101 rfl rfl ?_
    refine v_iload 102 C dX11_seemsOf_102 rfl ?_
    refine v_callV (st := [.int x1]) 104 C [.int x2, .int x4] lm_X11_102 ly_X11_sideOf (hB 0 _ rfl) (by decide) dX11_seemsOf_104 rfl (by decide) rfl (Nat.le_of_ble_eq_true rfl) (fun o1 h1 => m_X11_sideOf k hB x2 x4 σ o1 h1) hf (fun v1 s2 hf => ?_)
    refine v_if_eq (tgt := 132) 107 C dX11_seemsOf_107 (by decide) hf (fun hf => ?_) (fun hf => ?_)
    · exact Vx.lv [0, 2, 3, 4, 5] rfl (k_X11_seemsOf_b132 C k hB r4 hr4 r16 hr16 r50 hr50 r59 hr59 x2 x3 x4 x5 x1 s2 hf)
    · refine v_aload_n 110 C dX11_seemsOf_110 rfl rfl ?_
      refine v_iload_n 111 C dX11_seemsOf_111 rfl rfl ?_
      refine v_iload 112 C dX11_seemsOf_112 rfl ?_
      refine v_callV (st := [.int x1]) 114 C [.int x2, .int x4] lm_X11_102 ly_X11_sideOf (hB 0 _ rfl) (by decide) dX11_seemsOf_114 rfl (by decide) rfl (Nat.le_of_ble_eq_true rfl) (fun o1 h1 => m_X11_sideOf k hB x2 x4 s2 o1 h1) hf (fun v3 s4 hf => ?_)
      refine v_aload_n 117 C dX11_seemsOf_117 rfl rfl ?_
      refine v_iload_n 118 C dX11_seemsOf_118 rfl rfl ?_
      refine v_iload 119 C dX11_seemsOf_119 rfl ?_
      refine v_callV (st := [.int v3, .int x1]) 121 C [.int x3, .int x5] lm_X11_102 ly_X11_sideOf (hB 0 _ rfl) (by decide) dX11_seemsOf_121 rfl (by decide) rfl (Nat.le_of_ble_eq_true rfl) (fun o1 h1 => m_X11_sideOf k hB x3 x5 s4 o1 h1) hf (fun v5 s6 hf => ?_)
      refine v_iadd 124 C dX11_seemsOf_124 ?_
      refine v_if_ne (tgt := 132) 125 C dX11_seemsOf_125 (by decide) hf (fun hf => ?_) (fun hf => ?_)
      · exact Vx.lv [0, 2, 3, 4, 5] rfl (k_X11_seemsOf_b132 C k hB r4 hr4 r16 hr16 r50 hr50 r59 hr59 x2 x3 x4 x5 x1 s6 hf)
      · refine v_iconst (v := 1) 128 C dX11_seemsOf_128 (by decide) ?_
        refine v_goto (tgt := 133) 129 C dX11_seemsOf_129 (by decide) ?_
        exact Vx.lv [0, 2, 3, 4, 5] rfl (k_X11_seemsOf_b133 C k hB r4 hr4 r16 hr16 r50 hr50 r59 hr59 x2 x3 x4 x5 x1 1 s6 hf)
def f_X11_seemsOf_b91 (k : Nat) (r4 : Int32 → Int32 → Sg → Rs) (r16 : Int32 → Int32 → Int32 → Sg → Rs) (r50 : Int32 → Int32 → Int32 → Int32 → Sg → Rs) (r59 : Int32 → Int32 → Int32 → Int32 → Int32 → Sg → Rs) (x1 : Int32) (x2 : Int32) (x3 : Int32) (x4 : Int32) (x5 : Int32) (σ : Sg) : Rs := f_X11_seemsOf_b92 k r4 r16 r50 r59 x1 x2 x3 x4 x5 0 σ
set_option maxRecDepth 100000 in
set_option maxHeartbeats 4000000 in
theorem k_X11_seemsOf_b91 {q : Mc} {E : En} {L : List Nat} {o : Int32 × Sg} (C : Cx q E L cX11_seemsOf 7 RX11 (some .int) (4)) (k : Nat) (hB : Bk L sh_AuntsPuzzleModel k) (r4 : Int32 → Int32 → Sg → Rs) (hr4 : ∀ (x1 : Int32) (x2 : Int32) (σ : Sg), r4 x1 x2 σ = some o → Vx q E L 7 (some .int) o 4 [(0, .ref (E.2.1 (k))), (1, .int x1), (2, .int x2)] [] σ) (r16 : Int32 → Int32 → Int32 → Sg → Rs) (hr16 : ∀ (x1 : Int32) (x2 : Int32) (x3 : Int32) (σ : Sg), r16 x1 x2 x3 σ = some o → Vx q E L 7 (some .int) o 16 [(0, .ref (E.2.1 (k))), (1, .int x1), (2, .int x2), (3, .int x3)] [] σ) (r50 : Int32 → Int32 → Int32 → Int32 → Sg → Rs) (hr50 : ∀ (x1 : Int32) (x2 : Int32) (x3 : Int32) (x4 : Int32) (σ : Sg), r50 x1 x2 x3 x4 σ = some o → Vx q E L 7 (some .int) o 50 [(0, .ref (E.2.1 (k))), (1, .int x1), (2, .int x2), (3, .int x3), (4, .int x4)] [] σ) (r59 : Int32 → Int32 → Int32 → Int32 → Int32 → Sg → Rs) (hr59 : ∀ (x1 : Int32) (x2 : Int32) (x3 : Int32) (x4 : Int32) (x5 : Int32) (σ : Sg), r59 x1 x2 x3 x4 x5 σ = some o → Vx q E L 7 (some .int) o 59 [(0, .ref (E.2.1 (k))), (1, .int x1), (2, .int x2), (3, .int x3), (4, .int x4), (5, .int x5)] [] σ) (x1 : Int32) (x2 : Int32) (x3 : Int32) (x4 : Int32) (x5 : Int32) (σ : Sg) (hf : f_X11_seemsOf_b91 k r4 r16 r50 r59 x1 x2 x3 x4 x5 σ = some o) : Vx q E L 7 (some .int) o 91 [(0, .ref (E.2.1 (k))), (1, .int x1), (2, .int x2), (3, .int x3), (4, .int x4), (5, .int x5)] [] σ := by
  unfold f_X11_seemsOf_b91 at hf
  refine v_iconst (v := 0) 91 C dX11_seemsOf_91 (by decide) ?_
  exact Vx.lv [0, 1, 2, 3, 4, 5] rfl (k_X11_seemsOf_b92 C k hB r4 hr4 r16 hr16 r50 hr50 r59 hr59 x1 x2 x3 x4 x5 0 σ hf)
def f_X11_seemsOf_b59 (k : Nat) (r4 : Int32 → Int32 → Sg → Rs) (r16 : Int32 → Int32 → Int32 → Sg → Rs) (r50 : Int32 → Int32 → Int32 → Int32 → Sg → Rs) : Nat → Int32 → Int32 → Int32 → Int32 → Int32 → Sg → Rs
  | 0, _, _, _, _, _, _ => none
  | n + 1, x1, x2, x3, x4, x5, σ => if 4 ≤ x5 then (r50 x1 x2 x3 (x4 + 1) σ) else (p_call (f_X11_beside k x2 x4 σ) (fun v1 s2 => if v1 = x3 then (if x5 = ((x4 + 2) - (x4 + 2) / 4 * 4) then (f_X11_seemsOf_b92 k r4 r16 r50 (f_X11_seemsOf_b59 k r4 r16 r50 n) x1 x2 x3 x4 x5 1 s2) else (f_X11_seemsOf_b91 k r4 r16 r50 (f_X11_seemsOf_b59 k r4 r16 r50 n) x1 x2 x3 x4 x5 s2)) else (f_X11_seemsOf_b91 k r4 r16 r50 (f_X11_seemsOf_b59 k r4 r16 r50 n) x1 x2 x3 x4 x5 s2)))
set_option maxRecDepth 100000 in
set_option maxHeartbeats 4000000 in
theorem k_X11_seemsOf_b59 {q : Mc} {E : En} {L : List Nat} {o : Int32 × Sg} (C : Cx q E L cX11_seemsOf 7 RX11 (some .int) (4)) (k : Nat) (hB : Bk L sh_AuntsPuzzleModel k) (r4 : Int32 → Int32 → Sg → Rs) (hr4 : ∀ (x1 : Int32) (x2 : Int32) (σ : Sg), r4 x1 x2 σ = some o → Vx q E L 7 (some .int) o 4 [(0, .ref (E.2.1 (k))), (1, .int x1), (2, .int x2)] [] σ) (r16 : Int32 → Int32 → Int32 → Sg → Rs) (hr16 : ∀ (x1 : Int32) (x2 : Int32) (x3 : Int32) (σ : Sg), r16 x1 x2 x3 σ = some o → Vx q E L 7 (some .int) o 16 [(0, .ref (E.2.1 (k))), (1, .int x1), (2, .int x2), (3, .int x3)] [] σ) (r50 : Int32 → Int32 → Int32 → Int32 → Sg → Rs) (hr50 : ∀ (x1 : Int32) (x2 : Int32) (x3 : Int32) (x4 : Int32) (σ : Sg), r50 x1 x2 x3 x4 σ = some o → Vx q E L 7 (some .int) o 50 [(0, .ref (E.2.1 (k))), (1, .int x1), (2, .int x2), (3, .int x3), (4, .int x4)] [] σ) (n : Nat) : ∀ (x1 : Int32) (x2 : Int32) (x3 : Int32) (x4 : Int32) (x5 : Int32) (σ : Sg), f_X11_seemsOf_b59 k r4 r16 r50 n x1 x2 x3 x4 x5 σ = some o → Vx q E L 7 (some .int) o 59 [(0, .ref (E.2.1 (k))), (1, .int x1), (2, .int x2), (3, .int x3), (4, .int x4), (5, .int x5)] [] σ := by
  induction n with
  | zero => intro x1 x2 x3 x4 x5 σ hf; cases (show (none : Rs) = some o from hf)
  | succ n ih =>
    intro x1 x2 x3 x4 x5 σ hf
    rw [f_X11_seemsOf_b59] at hf
    refine v_iload 59 C dX11_seemsOf_59 rfl ?_
    refine v_iconst (v := 4) 61 C dX11_seemsOf_61 (by decide) ?_
    refine v_icmp_ge (tgt := 141) 62 C dX11_seemsOf_62 (by decide) hf (fun hf => ?_) (fun hf => ?_)
    · refine v_iinc (v := x4 + 1) (lv' := [(0, .ref (E.2.1 (k))), (1, .int x1), (2, .int x2), (3, .int x3), (4, .int (x4 + 1)), (5, .int x5)]) 141 C dX11_seemsOf_141 rfl (by rfl) (by decide) rfl rfl ?_
      refine v_goto (tgt := 50) 144 C dX11_seemsOf_144 (by decide) ?_
      exact Vx.lv [0, 1, 2, 3, 4] rfl (hr50 x1 x2 x3 (x4 + 1) σ hf)
    · refine v_aload_n 65 C dX11_seemsOf_65 rfl rfl ?_
      refine v_iload_n 66 C dX11_seemsOf_66 rfl rfl ?_
      refine v_iload 67 C dX11_seemsOf_67 rfl ?_
      refine v_callV (st := []) 69 C [.int x2, .int x4] lm_X11_98 ly_X11_beside (hB 0 _ rfl) (by decide) dX11_seemsOf_69 rfl (by decide) rfl (Nat.le_of_ble_eq_true rfl) (fun o1 h1 => m_X11_beside k hB x2 x4 σ o1 h1) hf (fun v1 s2 hf => ?_)
      refine v_iload_n 72 C dX11_seemsOf_72 rfl rfl ?_
      refine v_icmp_ne (tgt := 91) 73 C dX11_seemsOf_73 (by decide) hf (fun hf => ?_) (fun hf => ?_)
      · exact Vx.lv [0, 1, 2, 3, 4, 5] rfl (k_X11_seemsOf_b91 C k hB r4 hr4 r16 hr16 r50 hr50 (f_X11_seemsOf_b59 k r4 r16 r50 n) ih x1 x2 x3 x4 x5 s2 hf)
      · refine v_iload 76 C dX11_seemsOf_76 rfl ?_
        refine v_iload 78 C dX11_seemsOf_78 rfl ?_
        refine v_iconst (v := 2) 80 C dX11_seemsOf_80 (by decide) ?_
        refine v_iadd 81 C dX11_seemsOf_81 ?_
        refine v_iconst (v := 4) 82 C dX11_seemsOf_82 (by decide) ?_
        refine v_irem_c 83 C dX11_seemsOf_83 (by decide) ?_
        refine v_icmp_ne (tgt := 91) 84 C dX11_seemsOf_84 (by decide) hf (fun hf => ?_) (fun hf => ?_)
        · exact Vx.lv [0, 1, 2, 3, 4, 5] rfl (k_X11_seemsOf_b91 C k hB r4 hr4 r16 hr16 r50 hr50 (f_X11_seemsOf_b59 k r4 r16 r50 n) ih x1 x2 x3 x4 x5 s2 hf)
        · refine v_iconst (v := 1) 87 C dX11_seemsOf_87 (by decide) ?_
          refine v_goto (tgt := 92) 88 C dX11_seemsOf_88 (by decide) ?_
          exact Vx.lv [0, 1, 2, 3, 4, 5] rfl (k_X11_seemsOf_b92 C k hB r4 hr4 r16 hr16 r50 hr50 (f_X11_seemsOf_b59 k r4 r16 r50 n) ih x1 x2 x3 x4 x5 1 s2 hf)
def f_X11_seemsOf_b50 (k : Nat) (r4 : Int32 → Int32 → Sg → Rs) (r16 : Int32 → Int32 → Int32 → Sg → Rs) : Nat → Int32 → Int32 → Int32 → Int32 → Sg → Rs
  | 0, _, _, _, _, _ => none
  | n + 1, x1, x2, x3, x4, σ => if 4 ≤ x4 then (f_X11_seemsOf_b147 k r4 r16 x1 x2 x3 σ) else (f_X11_seemsOf_b59 k r4 r16 (f_X11_seemsOf_b50 k r4 r16 n) fu x1 x2 x3 x4 0 σ)
set_option maxRecDepth 100000 in
set_option maxHeartbeats 4000000 in
theorem k_X11_seemsOf_b50 {q : Mc} {E : En} {L : List Nat} {o : Int32 × Sg} (C : Cx q E L cX11_seemsOf 7 RX11 (some .int) (4)) (k : Nat) (hB : Bk L sh_AuntsPuzzleModel k) (r4 : Int32 → Int32 → Sg → Rs) (hr4 : ∀ (x1 : Int32) (x2 : Int32) (σ : Sg), r4 x1 x2 σ = some o → Vx q E L 7 (some .int) o 4 [(0, .ref (E.2.1 (k))), (1, .int x1), (2, .int x2)] [] σ) (r16 : Int32 → Int32 → Int32 → Sg → Rs) (hr16 : ∀ (x1 : Int32) (x2 : Int32) (x3 : Int32) (σ : Sg), r16 x1 x2 x3 σ = some o → Vx q E L 7 (some .int) o 16 [(0, .ref (E.2.1 (k))), (1, .int x1), (2, .int x2), (3, .int x3)] [] σ) (n : Nat) : ∀ (x1 : Int32) (x2 : Int32) (x3 : Int32) (x4 : Int32) (σ : Sg), f_X11_seemsOf_b50 k r4 r16 n x1 x2 x3 x4 σ = some o → Vx q E L 7 (some .int) o 50 [(0, .ref (E.2.1 (k))), (1, .int x1), (2, .int x2), (3, .int x3), (4, .int x4)] [] σ := by
  induction n with
  | zero => intro x1 x2 x3 x4 σ hf; cases (show (none : Rs) = some o from hf)
  | succ n ih =>
    intro x1 x2 x3 x4 σ hf
    rw [f_X11_seemsOf_b50] at hf
    refine v_iload 50 C dX11_seemsOf_50 rfl ?_
    refine v_iconst (v := 4) 52 C dX11_seemsOf_52 (by decide) ?_
    refine v_icmp_ge (tgt := 147) 53 C dX11_seemsOf_53 (by decide) hf (fun hf => ?_) (fun hf => ?_)
    · exact Vx.lv [0, 1, 2, 3] rfl (k_X11_seemsOf_b147 C k hB r4 hr4 r16 hr16 x1 x2 x3 σ hf)
    · refine v_iconst (v := 0) 56 C dX11_seemsOf_56 (by decide) ?_
      refine v_istore (lv' := [(0, .ref (E.2.1 (k))), (1, .int x1), (2, .int x2), (3, .int x3), (4, .int x4), (5, .int 0)]) 57 C dX11_seemsOf_57 (by decide) rfl rfl ?_
      exact Vx.lv [0, 1, 2, 3, 4, 5] rfl (k_X11_seemsOf_b59 C k hB r4 hr4 r16 hr16 (f_X11_seemsOf_b50 k r4 r16 n) ih fu x1 x2 x3 x4 0 σ hf)
def f_X11_seemsOf_b16 (k : Nat) (r4 : Int32 → Int32 → Sg → Rs) : Nat → Int32 → Int32 → Int32 → Sg → Rs
  | 0, _, _, _, _ => none
  | n + 1, x1, x2, x3, σ => p_call (f_X11_cells k σ) (fun v1 s2 => if v1 ≤ x3 then (r4 x1 (x2 + 1) s2) else (p_rd s2 (k + 8) 16 x2 (fun v3 => if v3 = 1 then (f_X11_seemsOf_b147 k r4 (f_X11_seemsOf_b16 k r4 n) x1 x2 x3 s2) else (p_rd s2 (k + 8) 16 x3 (fun v4 => if v4 = 1 then (f_X11_seemsOf_b147 k r4 (f_X11_seemsOf_b16 k r4 n) x1 x2 x3 s2) else (f_X11_seemsOf_b50 k r4 (f_X11_seemsOf_b16 k r4 n) fu x1 x2 x3 0 s2))))))
set_option maxRecDepth 100000 in
set_option maxHeartbeats 4000000 in
theorem k_X11_seemsOf_b16 {q : Mc} {E : En} {L : List Nat} {o : Int32 × Sg} (C : Cx q E L cX11_seemsOf 7 RX11 (some .int) (4)) (k : Nat) (hB : Bk L sh_AuntsPuzzleModel k) (r4 : Int32 → Int32 → Sg → Rs) (hr4 : ∀ (x1 : Int32) (x2 : Int32) (σ : Sg), r4 x1 x2 σ = some o → Vx q E L 7 (some .int) o 4 [(0, .ref (E.2.1 (k))), (1, .int x1), (2, .int x2)] [] σ) (n : Nat) : ∀ (x1 : Int32) (x2 : Int32) (x3 : Int32) (σ : Sg), f_X11_seemsOf_b16 k r4 n x1 x2 x3 σ = some o → Vx q E L 7 (some .int) o 16 [(0, .ref (E.2.1 (k))), (1, .int x1), (2, .int x2), (3, .int x3)] [] σ := by
  induction n with
  | zero => intro x1 x2 x3 σ hf; cases (show (none : Rs) = some o from hf)
  | succ n ih =>
    intro x1 x2 x3 σ hf
    rw [f_X11_seemsOf_b16] at hf
    refine v_iload_n 16 C dX11_seemsOf_16 rfl rfl ?_
    refine v_aload_n 17 C dX11_seemsOf_17 rfl rfl ?_
    refine v_callV (st := [.int x3]) 18 C [] lm_X11_91 ly_X11_cells (hB 0 _ rfl) (by decide) dX11_seemsOf_18 rfl (by decide) rfl (Nat.le_of_ble_eq_true rfl) (fun o1 h1 => m_X11_cells k hB  σ o1 h1) hf (fun v1 s2 hf => ?_)
    refine v_icmp_ge (tgt := 153) 21 C dX11_seemsOf_21 (by decide) hf (fun hf => ?_) (fun hf => ?_)
    · refine v_iinc (v := x2 + 1) (lv' := [(0, .ref (E.2.1 (k))), (1, .int x1), (2, .int (x2 + 1)), (3, .int x3)]) 153 C dX11_seemsOf_153 rfl (by rfl) (by decide) rfl rfl ?_
      refine v_goto (tgt := 4) 156 C dX11_seemsOf_156 (by decide) ?_
      exact Vx.lv [0, 1, 2] rfl (hr4 x1 (x2 + 1) s2 hf)
    · refine v_aload_n 24 C dX11_seemsOf_24 rfl rfl ?_
      refine v_getR 25 C lk_X11_31 (hB 0 _ rfl) (by decide) rfl dX11_seemsOf_25 ?_
      refine v_iload_n 28 C dX11_seemsOf_28 rfl rfl ?_
      refine v_iald 29 C (hB 8 _ rfl) dX11_seemsOf_29 hf (fun v3 hf => ?_)
      refine v_iconst (v := 1) 30 C dX11_seemsOf_30 (by decide) ?_
      refine v_icmp_eq (tgt := 147) 31 C dX11_seemsOf_31 (by decide) hf (fun hf => ?_) (fun hf => ?_)
      · exact Vx.lv [0, 1, 2, 3] rfl (k_X11_seemsOf_b147 C k hB r4 hr4 (f_X11_seemsOf_b16 k r4 n) ih x1 x2 x3 s2 hf)
      · refine v_aload_n 34 C dX11_seemsOf_34 rfl rfl ?_
        refine v_getR 35 C lk_X11_31 (hB 0 _ rfl) (by decide) rfl dX11_seemsOf_35 ?_
        refine v_iload_n 38 C dX11_seemsOf_38 rfl rfl ?_
        refine v_iald 39 C (hB 8 _ rfl) dX11_seemsOf_39 hf (fun v4 hf => ?_)
        refine v_iconst (v := 1) 40 C dX11_seemsOf_40 (by decide) ?_
        refine v_icmp_ne (tgt := 47) 41 C dX11_seemsOf_41 (by decide) hf (fun hf => ?_) (fun hf => ?_)
        · refine v_iconst (v := 0) 47 C dX11_seemsOf_47 (by decide) ?_
          refine v_istore (lv' := [(0, .ref (E.2.1 (k))), (1, .int x1), (2, .int x2), (3, .int x3), (4, .int 0)]) 48 C dX11_seemsOf_48 (by decide) rfl rfl ?_
          exact Vx.lv [0, 1, 2, 3, 4] rfl (k_X11_seemsOf_b50 C k hB r4 hr4 (f_X11_seemsOf_b16 k r4 n) ih fu x1 x2 x3 0 s2 hf)
        · refine v_goto (tgt := 147) 44 C dX11_seemsOf_44 (by decide) ?_
          exact Vx.lv [0, 1, 2, 3] rfl (k_X11_seemsOf_b147 C k hB r4 hr4 (f_X11_seemsOf_b16 k r4 n) ih x1 x2 x3 s2 hf)
def f_X11_seemsOf_b4 (k : Nat)  : Nat → Int32 → Int32 → Sg → Rs
  | 0, _, _, _ => none
  | n + 1, x1, x2, σ => p_call (f_X11_cells k σ) (fun v1 s2 => if v1 ≤ x2 then (some (x1, s2)) else (f_X11_seemsOf_b16 k (f_X11_seemsOf_b4 k n) fu x1 x2 (x2 + 1) s2))
set_option maxRecDepth 100000 in
set_option maxHeartbeats 4000000 in
theorem k_X11_seemsOf_b4 {q : Mc} {E : En} {L : List Nat} {o : Int32 × Sg} (C : Cx q E L cX11_seemsOf 7 RX11 (some .int) (4)) (k : Nat) (hB : Bk L sh_AuntsPuzzleModel k) (n : Nat) : ∀ (x1 : Int32) (x2 : Int32) (σ : Sg), f_X11_seemsOf_b4 k n x1 x2 σ = some o → Vx q E L 7 (some .int) o 4 [(0, .ref (E.2.1 (k))), (1, .int x1), (2, .int x2)] [] σ := by
  induction n with
  | zero => intro x1 x2 σ hf; cases (show (none : Rs) = some o from hf)
  | succ n ih =>
    intro x1 x2 σ hf
    rw [f_X11_seemsOf_b4] at hf
    refine v_iload_n 4 C dX11_seemsOf_4 rfl rfl ?_
    refine v_aload_n 5 C dX11_seemsOf_5 rfl rfl ?_
    refine v_callV (st := [.int x2]) 6 C [] lm_X11_91 ly_X11_cells (hB 0 _ rfl) (by decide) dX11_seemsOf_6 rfl (by decide) rfl (Nat.le_of_ble_eq_true rfl) (fun o1 h1 => m_X11_cells k hB  σ o1 h1) hf (fun v1 s2 hf => ?_)
    refine v_icmp_ge (tgt := 159) 9 C dX11_seemsOf_9 (by decide) hf (fun hf => ?_) (fun hf => ?_)
    · refine v_iload_n 159 C dX11_seemsOf_159 rfl rfl ?_
      exact v_iret 160 C rfl dX11_seemsOf_160 hf
    · refine v_iload_n 12 C dX11_seemsOf_12 rfl rfl ?_
      refine v_iconst (v := 1) 13 C dX11_seemsOf_13 (by decide) ?_
      refine v_iadd 14 C dX11_seemsOf_14 ?_
      refine v_istore_n (lv' := [(0, .ref (E.2.1 (k))), (1, .int x1), (2, .int x2), (3, .int (x2 + 1))]) 15 C dX11_seemsOf_15 rfl (by decide) rfl rfl ?_
      exact Vx.lv [0, 1, 2, 3] rfl (k_X11_seemsOf_b16 C k hB (f_X11_seemsOf_b4 k n) ih fu x1 x2 (x2 + 1) s2 hf)
def f_X11_seemsOf (k : Nat) (σ : Sg) : Rs := f_X11_seemsOf_b4 k fu 0 0 σ
set_option maxRecDepth 100000 in
set_option maxHeartbeats 4000000 in
theorem k_X11_seemsOf_b0 {q : Mc} {E : En} {L : List Nat} {o : Int32 × Sg} (C : Cx q E L cX11_seemsOf 7 RX11 (some .int) (4)) (k : Nat) (hB : Bk L sh_AuntsPuzzleModel k) (σ : Sg) (hf : f_X11_seemsOf k σ = some o) : Vx q E L 7 (some .int) o 0 [(0, .ref (E.2.1 (k)))] [] σ := by
  unfold f_X11_seemsOf at hf
  refine v_iconst (v := 0) 0 C dX11_seemsOf_0 (by decide) ?_
  refine v_istore_n (lv' := [(0, .ref (E.2.1 (k))), (1, .int 0)]) 1 C dX11_seemsOf_1 rfl (by decide) rfl rfl ?_
  refine v_iconst (v := 0) 2 C dX11_seemsOf_2 (by decide) ?_
  refine v_istore_n (lv' := [(0, .ref (E.2.1 (k))), (1, .int 0), (2, .int 0)]) 3 C dX11_seemsOf_3 rfl (by decide) rfl rfl ?_
  exact Vx.lv [0, 1, 2] rfl (k_X11_seemsOf_b4 C k hB fu 0 0 σ hf)
theorem m_X11_seemsOf {l : Launch} {E : En} {L : List Nat} (k : Nat) (hB : Bk L sh_AuntsPuzzleModel k) (σ : Sg) (o : Int32 × Sg) (hf : f_X11_seemsOf k σ = some o) : Mi l yX11_seemsOf cX11_seemsOf 7 (some .int) (4) E L [.ref (E.2.1 (k))] σ o :=
  Mi.of RX11 rfl (by decide) (Nat.le_of_ble_eq_true rfl) (fun q hq C => by subst hq; exact k_X11_seemsOf_b0 C k hB  σ hf)
def f_X11_seems (k : Nat) (σ : Sg) : Rs := p_call (f_X11_seemsOf k σ) (fun v1 s2 => some (v1, s2))
set_option maxRecDepth 100000 in
set_option maxHeartbeats 4000000 in
theorem k_X11_seems_b0 {q : Mc} {E : En} {L : List Nat} {o : Int32 × Sg} (C : Cx q E L cX11_seems 1 RX11 (some .int) (5)) (k : Nat) (hB : Bk L sh_AuntsPuzzleModel k) (σ : Sg) (hf : f_X11_seems k σ = some o) : Vx q E L 1 (some .int) o 0 [(0, .ref (E.2.1 (k)))] [] σ := by
  unfold f_X11_seems at hf
  refine v_aload_n 0 C dX11_seems_0 rfl rfl ?_
  refine v_callV (st := []) 1 C [] lm_X11_264 ly_X11_seemsOf (hB 0 _ rfl) (by decide) dX11_seems_1 rfl (by decide) rfl (Nat.le_of_ble_eq_true rfl) (fun o1 h1 => m_X11_seemsOf k hB  σ o1 h1) hf (fun v1 s2 hf => ?_)
  exact v_iret 4 C rfl dX11_seems_4 hf
theorem m_X11_seems {l : Launch} {E : En} {L : List Nat} (k : Nat) (hB : Bk L sh_AuntsPuzzleModel k) (σ : Sg) (o : Int32 × Sg) (hf : f_X11_seems k σ = some o) : Mi l yX11_seems cX11_seems 1 (some .int) (5) E L [.ref (E.2.1 (k))] σ o :=
  Mi.of RX11 rfl (by decide) (Nat.le_of_ble_eq_true rfl) (fun q hq C => by subst hq; exact k_X11_seems_b0 C k hB  σ hf)
def f_X11_isOwn (k : Nat) (x1 : Int32) (σ : Sg) : Rs := p_rd σ (k + 5) 16 x1 (fun v1 => if v1 = x1 then (p_rd σ (k + 6) 16 x1 (fun v2 => if v2 = 0 then (some (1, σ)) else (some (0, σ)))) else (some (0, σ)))
set_option maxRecDepth 100000 in
set_option maxHeartbeats 4000000 in
theorem k_X11_isOwn_b0 {q : Mc} {E : En} {L : List Nat} {o : Int32 × Sg} (C : Cx q E L cX11_isOwn 2 RX11 (some .boolean) (1)) (k : Nat) (hB : Bk L sh_AuntsPuzzleModel k) (x1 : Int32) (σ : Sg) (hf : f_X11_isOwn k x1 σ = some o) : Vx q E L 2 (some .boolean) o 0 [(0, .ref (E.2.1 (k))), (1, .int x1)] [] σ := by
  unfold f_X11_isOwn at hf
  refine v_aload_n 0 C dX11_isOwn_0 rfl rfl ?_
  refine v_getR 1 C lk_X11_22 (hB 0 _ rfl) (by decide) rfl dX11_isOwn_1 ?_
  refine v_iload_n 4 C dX11_isOwn_4 rfl rfl ?_
  refine v_iald 5 C (hB 5 _ rfl) dX11_isOwn_5 hf (fun v1 hf => ?_)
  refine v_iload_n 6 C dX11_isOwn_6 rfl rfl ?_
  refine v_icmp_ne (tgt := 23) 7 C dX11_isOwn_7 (by decide) hf (fun hf => ?_) (fun hf => ?_)
  · refine v_iconst (v := 0) 23 C dX11_isOwn_23 (by decide) ?_
    exact v_zretN 24 C rfl dX11_isOwn_24 (by decide) hf
  · refine v_aload_n 10 C dX11_isOwn_10 rfl rfl ?_
    refine v_getR 11 C lk_X11_25 (hB 0 _ rfl) (by decide) rfl dX11_isOwn_11 ?_
    refine v_iload_n 14 C dX11_isOwn_14 rfl rfl ?_
    refine v_iald 15 C (hB 6 _ rfl) dX11_isOwn_15 hf (fun v2 hf => ?_)
    refine v_if_ne (tgt := 23) 16 C dX11_isOwn_16 (by decide) hf (fun hf => ?_) (fun hf => ?_)
    · refine v_iconst (v := 0) 23 C dX11_isOwn_23 (by decide) ?_
      exact v_zretN 24 C rfl dX11_isOwn_24 (by decide) hf
    · refine v_iconst (v := 1) 19 C dX11_isOwn_19 (by decide) ?_
      refine v_goto (tgt := 24) 20 C dX11_isOwn_20 (by decide) ?_
      exact v_zretN 24 C rfl dX11_isOwn_24 (by decide) hf
theorem m_X11_isOwn {l : Launch} {E : En} {L : List Nat} (k : Nat) (hB : Bk L sh_AuntsPuzzleModel k) (x1 : Int32) (σ : Sg) (o : Int32 × Sg) (hf : f_X11_isOwn k x1 σ = some o) : Mi l yX11_isOwn cX11_isOwn 2 (some .boolean) (1) E L [.ref (E.2.1 (k)), .int x1] σ o :=
  Mi.of RX11 rfl (by decide) (Nat.le_of_ble_eq_true rfl) (fun q hq C => by subst hq; exact k_X11_isOwn_b0 C k hB x1 σ hf)
def f_X11_wrong_b26 (k : Nat) (r4 : Int32 → Int32 → Sg → Rs) (x2 : Int32) (t0 : Int32) (t1 : Int32) (σ : Sg) : Rs := r4 (t0 + t1) (x2 + 1) σ
set_option maxRecDepth 100000 in
set_option maxHeartbeats 4000000 in
theorem k_X11_wrong_b26 {q : Mc} {E : En} {L : List Nat} {o : Int32 × Sg} (C : Cx q E L cX11_wrong 3 RX11 (some .int) (2)) (k : Nat) (hB : Bk L sh_AuntsPuzzleModel k) (r4 : Int32 → Int32 → Sg → Rs) (hr4 : ∀ (x1 : Int32) (x2 : Int32) (σ : Sg), r4 x1 x2 σ = some o → Vx q E L 3 (some .int) o 4 [(0, .ref (E.2.1 (k))), (1, .int x1), (2, .int x2)] [] σ) (x2 : Int32) (t0 : Int32) (t1 : Int32) (σ : Sg) (hf : f_X11_wrong_b26 k r4 x2 t0 t1 σ = some o) : Vx q E L 3 (some .int) o 26 [(0, .ref (E.2.1 (k))), (2, .int x2)] [.int t1, .int t0] σ := by
  unfold f_X11_wrong_b26 at hf
  refine v_iadd 26 C dX11_wrong_26 ?_
  refine v_istore_n (lv' := [(0, .ref (E.2.1 (k))), (2, .int x2), (1, .int (t0 + t1))]) 27 C dX11_wrong_27 rfl (by decide) rfl rfl ?_
  refine v_iinc (v := x2 + 1) (lv' := [(0, .ref (E.2.1 (k))), (2, .int (x2 + 1)), (1, .int (t0 + t1))]) 28 C dX11_wrong_28 rfl (by rfl) (by decide) rfl rfl ?_
  refine v_goto (tgt := 4) 31 C dX11_wrong_31 (by decide) ?_
  exact Vx.lv [0, 2, 1] rfl (hr4 (t0 + t1) (x2 + 1) σ hf)
def f_X11_wrong_b4 (k : Nat)  : Nat → Int32 → Int32 → Sg → Rs
  | 0, _, _, _ => none
  | n + 1, x1, x2, σ => p_call (f_X11_cells k σ) (fun v1 s2 => if v1 ≤ x2 then (some (x1, s2)) else (p_call (f_X11_isOwn k x2 s2) (fun v3 s4 => if v3 = 0 then (f_X11_wrong_b26 k (f_X11_wrong_b4 k n) x2 x1 1 s4) else (f_X11_wrong_b26 k (f_X11_wrong_b4 k n) x2 x1 0 s4))))
set_option maxRecDepth 100000 in
set_option maxHeartbeats 4000000 in
theorem k_X11_wrong_b4 {q : Mc} {E : En} {L : List Nat} {o : Int32 × Sg} (C : Cx q E L cX11_wrong 3 RX11 (some .int) (2)) (k : Nat) (hB : Bk L sh_AuntsPuzzleModel k) (n : Nat) : ∀ (x1 : Int32) (x2 : Int32) (σ : Sg), f_X11_wrong_b4 k n x1 x2 σ = some o → Vx q E L 3 (some .int) o 4 [(0, .ref (E.2.1 (k))), (1, .int x1), (2, .int x2)] [] σ := by
  induction n with
  | zero => intro x1 x2 σ hf; cases (show (none : Rs) = some o from hf)
  | succ n ih =>
    intro x1 x2 σ hf
    rw [f_X11_wrong_b4] at hf
    refine v_iload_n 4 C dX11_wrong_4 rfl rfl ?_
    refine v_aload_n 5 C dX11_wrong_5 rfl rfl ?_
    refine v_callV (st := [.int x2]) 6 C [] lm_X11_91 ly_X11_cells (hB 0 _ rfl) (by decide) dX11_wrong_6 rfl (by decide) rfl (Nat.le_of_ble_eq_true rfl) (fun o1 h1 => m_X11_cells k hB  σ o1 h1) hf (fun v1 s2 hf => ?_)
    refine v_icmp_ge (tgt := 34) 9 C dX11_wrong_9 (by decide) hf (fun hf => ?_) (fun hf => ?_)
    · refine v_iload_n 34 C dX11_wrong_34 rfl rfl ?_
      exact v_iret 35 C rfl dX11_wrong_35 hf
    · refine v_iload_n 12 C dX11_wrong_12 rfl rfl ?_
      refine v_aload_n 13 C dX11_wrong_13 rfl rfl ?_
      refine v_iload_n 14 C dX11_wrong_14 rfl rfl ?_
      refine v_callV (st := [.int x1]) 15 C [.int x2] lm_X11_267 ly_X11_isOwn (hB 0 _ rfl) (by decide) dX11_wrong_15 rfl (by decide) rfl (Nat.le_of_ble_eq_true rfl) (fun o1 h1 => m_X11_isOwn k hB x2 s2 o1 h1) hf (fun v3 s4 hf => ?_)
      refine v_if_eq (tgt := 25) 18 C dX11_wrong_18 (by decide) hf (fun hf => ?_) (fun hf => ?_)
      · refine v_iconst (v := 1) 25 C dX11_wrong_25 (by decide) ?_
        exact Vx.lv [0, 2] rfl (k_X11_wrong_b26 C k hB (f_X11_wrong_b4 k n) ih x2 x1 1 s4 hf)
      · refine v_iconst (v := 0) 21 C dX11_wrong_21 (by decide) ?_
        refine v_goto (tgt := 26) 22 C dX11_wrong_22 (by decide) ?_
        exact Vx.lv [0, 2] rfl (k_X11_wrong_b26 C k hB (f_X11_wrong_b4 k n) ih x2 x1 0 s4 hf)
def f_X11_wrong (k : Nat) (σ : Sg) : Rs := f_X11_wrong_b4 k fu 0 0 σ
set_option maxRecDepth 100000 in
set_option maxHeartbeats 4000000 in
theorem k_X11_wrong_b0 {q : Mc} {E : En} {L : List Nat} {o : Int32 × Sg} (C : Cx q E L cX11_wrong 3 RX11 (some .int) (2)) (k : Nat) (hB : Bk L sh_AuntsPuzzleModel k) (σ : Sg) (hf : f_X11_wrong k σ = some o) : Vx q E L 3 (some .int) o 0 [(0, .ref (E.2.1 (k)))] [] σ := by
  unfold f_X11_wrong at hf
  refine v_iconst (v := 0) 0 C dX11_wrong_0 (by decide) ?_
  refine v_istore_n (lv' := [(0, .ref (E.2.1 (k))), (1, .int 0)]) 1 C dX11_wrong_1 rfl (by decide) rfl rfl ?_
  refine v_iconst (v := 0) 2 C dX11_wrong_2 (by decide) ?_
  refine v_istore_n (lv' := [(0, .ref (E.2.1 (k))), (1, .int 0), (2, .int 0)]) 3 C dX11_wrong_3 rfl (by decide) rfl rfl ?_
  exact Vx.lv [0, 1, 2] rfl (k_X11_wrong_b4 C k hB fu 0 0 σ hf)
theorem m_X11_wrong {l : Launch} {E : En} {L : List Nat} (k : Nat) (hB : Bk L sh_AuntsPuzzleModel k) (σ : Sg) (o : Int32 × Sg) (hf : f_X11_wrong k σ = some o) : Mi l yX11_wrong cX11_wrong 3 (some .int) (2) E L [.ref (E.2.1 (k))] σ o :=
  Mi.of RX11 rfl (by decide) (Nat.le_of_ble_eq_true rfl) (fun q hq C => by subst hq; exact k_X11_wrong_b0 C k hB  σ hf)
def f_X11_falseOne_b29 (k : Nat) (r2 : Int32 → Sg → Rs) (x1 : Int32) (σ : Sg) : Rs := r2 (x1 + 1) σ
set_option maxRecDepth 100000 in
set_option maxHeartbeats 4000000 in
theorem k_X11_falseOne_b29 {q : Mc} {E : En} {L : List Nat} {o : Int32 × Sg} (C : Cx q E L cX11_falseOne 2 RX11 (some .int) (2)) (k : Nat) (hB : Bk L sh_AuntsPuzzleModel k) (r2 : Int32 → Sg → Rs) (hr2 : ∀ (x1 : Int32) (σ : Sg), r2 x1 σ = some o → Vx q E L 2 (some .int) o 2 [(0, .ref (E.2.1 (k))), (1, .int x1)] [] σ) (x1 : Int32) (σ : Sg) (hf : f_X11_falseOne_b29 k r2 x1 σ = some o) : Vx q E L 2 (some .int) o 29 [(0, .ref (E.2.1 (k))), (1, .int x1)] [] σ := by
  unfold f_X11_falseOne_b29 at hf
  refine v_iinc (v := x1 + 1) (lv' := [(0, .ref (E.2.1 (k))), (1, .int (x1 + 1))]) 29 C dX11_falseOne_29 rfl (by rfl) (by decide) rfl rfl ?_
  refine v_goto (tgt := 2) 32 C dX11_falseOne_32 (by decide) ?_
  exact Vx.lv [0, 1] rfl (hr2 (x1 + 1) σ hf)
def f_X11_falseOne_b2 (k : Nat)  : Nat → Int32 → Sg → Rs
  | 0, _, _ => none
  | n + 1, x1, σ => p_call (f_X11_cells k σ) (fun v1 s2 => if v1 ≤ x1 then (some ((-9), s2)) else (p_rd s2 (k + 5) 16 x1 (fun v3 => if v3 < 0 then (f_X11_falseOne_b29 k (f_X11_falseOne_b2 k n) x1 s2) else (p_call (f_X11_isOwn k x1 s2) (fun v4 s5 => if v4 = 0 then (some (x1, s5)) else (f_X11_falseOne_b29 k (f_X11_falseOne_b2 k n) x1 s5))))))
set_option maxRecDepth 100000 in
set_option maxHeartbeats 4000000 in
theorem k_X11_falseOne_b2 {q : Mc} {E : En} {L : List Nat} {o : Int32 × Sg} (C : Cx q E L cX11_falseOne 2 RX11 (some .int) (2)) (k : Nat) (hB : Bk L sh_AuntsPuzzleModel k) (n : Nat) : ∀ (x1 : Int32) (σ : Sg), f_X11_falseOne_b2 k n x1 σ = some o → Vx q E L 2 (some .int) o 2 [(0, .ref (E.2.1 (k))), (1, .int x1)] [] σ := by
  induction n with
  | zero => intro x1 σ hf; cases (show (none : Rs) = some o from hf)
  | succ n ih =>
    intro x1 σ hf
    rw [f_X11_falseOne_b2] at hf
    refine v_iload_n 2 C dX11_falseOne_2 rfl rfl ?_
    refine v_aload_n 3 C dX11_falseOne_3 rfl rfl ?_
    refine v_callV (st := [.int x1]) 4 C [] lm_X11_91 ly_X11_cells (hB 0 _ rfl) (by decide) dX11_falseOne_4 rfl (by decide) rfl (Nat.le_of_ble_eq_true rfl) (fun o1 h1 => m_X11_cells k hB  σ o1 h1) hf (fun v1 s2 hf => ?_)
    refine v_icmp_ge (tgt := 35) 7 C dX11_falseOne_7 (by decide) hf (fun hf => ?_) (fun hf => ?_)
    · refine v_bipush (v := (-9)) 35 C dX11_falseOne_35 (by decide) ?_
      exact v_iret 37 C rfl dX11_falseOne_37 hf
    · refine v_aload_n 10 C dX11_falseOne_10 rfl rfl ?_
      refine v_getR 11 C lk_X11_22 (hB 0 _ rfl) (by decide) rfl dX11_falseOne_11 ?_
      refine v_iload_n 14 C dX11_falseOne_14 rfl rfl ?_
      refine v_iald 15 C (hB 5 _ rfl) dX11_falseOne_15 hf (fun v3 hf => ?_)
      refine v_if_lt (tgt := 29) 16 C dX11_falseOne_16 (by decide) hf (fun hf => ?_) (fun hf => ?_)
      · exact Vx.lv [0, 1] rfl (k_X11_falseOne_b29 C k hB (f_X11_falseOne_b2 k n) ih x1 s2 hf)
      · refine v_aload_n 19 C dX11_falseOne_19 rfl rfl ?_
        refine v_iload_n 20 C dX11_falseOne_20 rfl rfl ?_
        refine v_callV (st := []) 21 C [.int x1] lm_X11_267 ly_X11_isOwn (hB 0 _ rfl) (by decide) dX11_falseOne_21 rfl (by decide) rfl (Nat.le_of_ble_eq_true rfl) (fun o1 h1 => m_X11_isOwn k hB x1 s2 o1 h1) hf (fun v4 s5 hf => ?_)
        refine v_if_ne (tgt := 29) 24 C dX11_falseOne_24 (by decide) hf (fun hf => ?_) (fun hf => ?_)
        · exact Vx.lv [0, 1] rfl (k_X11_falseOne_b29 C k hB (f_X11_falseOne_b2 k n) ih x1 s5 hf)
        · refine v_iload_n 27 C dX11_falseOne_27 rfl rfl ?_
          exact v_iret 28 C rfl dX11_falseOne_28 hf
def f_X11_falseOne (k : Nat) (σ : Sg) : Rs := f_X11_falseOne_b2 k fu 0 σ
set_option maxRecDepth 100000 in
set_option maxHeartbeats 4000000 in
theorem k_X11_falseOne_b0 {q : Mc} {E : En} {L : List Nat} {o : Int32 × Sg} (C : Cx q E L cX11_falseOne 2 RX11 (some .int) (2)) (k : Nat) (hB : Bk L sh_AuntsPuzzleModel k) (σ : Sg) (hf : f_X11_falseOne k σ = some o) : Vx q E L 2 (some .int) o 0 [(0, .ref (E.2.1 (k)))] [] σ := by
  unfold f_X11_falseOne at hf
  refine v_iconst (v := 0) 0 C dX11_falseOne_0 (by decide) ?_
  refine v_istore_n (lv' := [(0, .ref (E.2.1 (k))), (1, .int 0)]) 1 C dX11_falseOne_1 rfl (by decide) rfl rfl ?_
  exact Vx.lv [0, 1] rfl (k_X11_falseOne_b2 C k hB fu 0 σ hf)
theorem m_X11_falseOne {l : Launch} {E : En} {L : List Nat} (k : Nat) (hB : Bk L sh_AuntsPuzzleModel k) (σ : Sg) (o : Int32 × Sg) (hf : f_X11_falseOne k σ = some o) : Mi l yX11_falseOne cX11_falseOne 2 (some .int) (2) E L [.ref (E.2.1 (k))] σ o :=
  Mi.of RX11 rfl (by decide) (Nat.le_of_ble_eq_true rfl) (fun q hq C => by subst hq; exact k_X11_falseOne_b0 C k hB  σ hf)
def f_X11_fitsSomewhere_b38 (k : Nat) (r2 : Int32 → Int32 → Sg → Rs) (r12 : Int32 → Int32 → Int32 → Sg → Rs) (x1 : Int32) (x2 : Int32) (x3 : Int32) (σ : Sg) : Rs := r12 x1 x2 (x3 + 1) σ
set_option maxRecDepth 100000 in
set_option maxHeartbeats 4000000 in
theorem k_X11_fitsSomewhere_b38 {q : Mc} {E : En} {L : List Nat} {o : Int32 × Sg} (C : Cx q E L cX11_fitsSomewhere 4 RX11 (some .boolean) (7)) (k : Nat) (hB : Bk L sh_AuntsPuzzleModel k) (r2 : Int32 → Int32 → Sg → Rs) (hr2 : ∀ (x1 : Int32) (x2 : Int32) (σ : Sg), r2 x1 x2 σ = some o → Vx q E L 4 (some .boolean) o 2 [(0, .ref (E.2.1 (k))), (1, .int x1), (2, .int x2)] [] σ) (r12 : Int32 → Int32 → Int32 → Sg → Rs) (hr12 : ∀ (x1 : Int32) (x2 : Int32) (x3 : Int32) (σ : Sg), r12 x1 x2 x3 σ = some o → Vx q E L 4 (some .boolean) o 12 [(0, .ref (E.2.1 (k))), (1, .int x1), (2, .int x2), (3, .int x3)] [] σ) (x1 : Int32) (x2 : Int32) (x3 : Int32) (σ : Sg) (hf : f_X11_fitsSomewhere_b38 k r2 r12 x1 x2 x3 σ = some o) : Vx q E L 4 (some .boolean) o 38 [(0, .ref (E.2.1 (k))), (1, .int x1), (2, .int x2), (3, .int x3)] [] σ := by
  unfold f_X11_fitsSomewhere_b38 at hf
  refine v_iinc (v := x3 + 1) (lv' := [(0, .ref (E.2.1 (k))), (1, .int x1), (2, .int x2), (3, .int (x3 + 1))]) 38 C dX11_fitsSomewhere_38 rfl (by rfl) (by decide) rfl rfl ?_
  refine v_goto (tgt := 12) 41 C dX11_fitsSomewhere_41 (by decide) ?_
  exact Vx.lv [0, 1, 2, 3] rfl (hr12 x1 x2 (x3 + 1) σ hf)
def f_X11_fitsSomewhere_b12 (k : Nat) (r2 : Int32 → Int32 → Sg → Rs) : Nat → Int32 → Int32 → Int32 → Sg → Rs
  | 0, _, _, _, _ => none
  | n + 1, x1, x2, x3, σ => if 4 ≤ x3 then (r2 x1 (x2 + 1) σ) else (p_rd σ (k + 5) 16 x2 (fun v1 => if 0 ≤ v1 then (f_X11_fitsSomewhere_b38 k r2 (f_X11_fitsSomewhere_b12 k r2 n) x1 x2 x3 σ) else (p_call (f_X11_doesFit k x1 x3 x2 σ) (fun v2 s3 => if v2 = 0 then (f_X11_fitsSomewhere_b38 k r2 (f_X11_fitsSomewhere_b12 k r2 n) x1 x2 x3 s3) else (some (1, s3))))))
set_option maxRecDepth 100000 in
set_option maxHeartbeats 4000000 in
theorem k_X11_fitsSomewhere_b12 {q : Mc} {E : En} {L : List Nat} {o : Int32 × Sg} (C : Cx q E L cX11_fitsSomewhere 4 RX11 (some .boolean) (7)) (k : Nat) (hB : Bk L sh_AuntsPuzzleModel k) (r2 : Int32 → Int32 → Sg → Rs) (hr2 : ∀ (x1 : Int32) (x2 : Int32) (σ : Sg), r2 x1 x2 σ = some o → Vx q E L 4 (some .boolean) o 2 [(0, .ref (E.2.1 (k))), (1, .int x1), (2, .int x2)] [] σ) (n : Nat) : ∀ (x1 : Int32) (x2 : Int32) (x3 : Int32) (σ : Sg), f_X11_fitsSomewhere_b12 k r2 n x1 x2 x3 σ = some o → Vx q E L 4 (some .boolean) o 12 [(0, .ref (E.2.1 (k))), (1, .int x1), (2, .int x2), (3, .int x3)] [] σ := by
  induction n with
  | zero => intro x1 x2 x3 σ hf; cases (show (none : Rs) = some o from hf)
  | succ n ih =>
    intro x1 x2 x3 σ hf
    rw [f_X11_fitsSomewhere_b12] at hf
    refine v_iload_n 12 C dX11_fitsSomewhere_12 rfl rfl ?_
    refine v_iconst (v := 4) 13 C dX11_fitsSomewhere_13 (by decide) ?_
    refine v_icmp_ge (tgt := 44) 14 C dX11_fitsSomewhere_14 (by decide) hf (fun hf => ?_) (fun hf => ?_)
    · refine v_iinc (v := x2 + 1) (lv' := [(0, .ref (E.2.1 (k))), (1, .int x1), (2, .int (x2 + 1)), (3, .int x3)]) 44 C dX11_fitsSomewhere_44 rfl (by rfl) (by decide) rfl rfl ?_
      refine v_goto (tgt := 2) 47 C dX11_fitsSomewhere_47 (by decide) ?_
      exact Vx.lv [0, 1, 2] rfl (hr2 x1 (x2 + 1) σ hf)
    · refine v_aload_n 17 C dX11_fitsSomewhere_17 rfl rfl ?_
      refine v_getR 18 C lk_X11_22 (hB 0 _ rfl) (by decide) rfl dX11_fitsSomewhere_18 ?_
      refine v_iload_n 21 C dX11_fitsSomewhere_21 rfl rfl ?_
      refine v_iald 22 C (hB 5 _ rfl) dX11_fitsSomewhere_22 hf (fun v1 hf => ?_)
      refine v_if_ge (tgt := 38) 23 C dX11_fitsSomewhere_23 (by decide) hf (fun hf => ?_) (fun hf => ?_)
      · exact Vx.lv [0, 1, 2, 3] rfl (k_X11_fitsSomewhere_b38 C k hB r2 hr2 (f_X11_fitsSomewhere_b12 k r2 n) ih x1 x2 x3 σ hf)
      · refine v_aload_n 26 C dX11_fitsSomewhere_26 rfl rfl ?_
        refine v_iload_n 27 C dX11_fitsSomewhere_27 rfl rfl ?_
        refine v_iload_n 28 C dX11_fitsSomewhere_28 rfl rfl ?_
        refine v_iload_n 29 C dX11_fitsSomewhere_29 rfl rfl ?_
        refine v_callV (st := []) 30 C [.int x1, .int x3, .int x2] lm_X11_181 ly_X11_doesFit (hB 0 _ rfl) (by decide) dX11_fitsSomewhere_30 rfl (by decide) rfl (Nat.le_of_ble_eq_true rfl) (fun o1 h1 => m_X11_doesFit k hB x1 x3 x2 σ o1 h1) hf (fun v2 s3 hf => ?_)
        refine v_if_eq (tgt := 38) 33 C dX11_fitsSomewhere_33 (by decide) hf (fun hf => ?_) (fun hf => ?_)
        · exact Vx.lv [0, 1, 2, 3] rfl (k_X11_fitsSomewhere_b38 C k hB r2 hr2 (f_X11_fitsSomewhere_b12 k r2 n) ih x1 x2 x3 s3 hf)
        · refine v_iconst (v := 1) 36 C dX11_fitsSomewhere_36 (by decide) ?_
          exact v_zretN 37 C rfl dX11_fitsSomewhere_37 (by decide) hf
def f_X11_fitsSomewhere_b2 (k : Nat)  : Nat → Int32 → Int32 → Sg → Rs
  | 0, _, _, _ => none
  | n + 1, x1, x2, σ => p_call (f_X11_cells k σ) (fun v1 s2 => if v1 ≤ x2 then (some (0, s2)) else (f_X11_fitsSomewhere_b12 k (f_X11_fitsSomewhere_b2 k n) fu x1 x2 0 s2))
set_option maxRecDepth 100000 in
set_option maxHeartbeats 4000000 in
theorem k_X11_fitsSomewhere_b2 {q : Mc} {E : En} {L : List Nat} {o : Int32 × Sg} (C : Cx q E L cX11_fitsSomewhere 4 RX11 (some .boolean) (7)) (k : Nat) (hB : Bk L sh_AuntsPuzzleModel k) (n : Nat) : ∀ (x1 : Int32) (x2 : Int32) (σ : Sg), f_X11_fitsSomewhere_b2 k n x1 x2 σ = some o → Vx q E L 4 (some .boolean) o 2 [(0, .ref (E.2.1 (k))), (1, .int x1), (2, .int x2)] [] σ := by
  induction n with
  | zero => intro x1 x2 σ hf; cases (show (none : Rs) = some o from hf)
  | succ n ih =>
    intro x1 x2 σ hf
    rw [f_X11_fitsSomewhere_b2] at hf
    refine v_iload_n 2 C dX11_fitsSomewhere_2 rfl rfl ?_
    refine v_aload_n 3 C dX11_fitsSomewhere_3 rfl rfl ?_
    refine v_callV (st := [.int x2]) 4 C [] lm_X11_91 ly_X11_cells (hB 0 _ rfl) (by decide) dX11_fitsSomewhere_4 rfl (by decide) rfl (Nat.le_of_ble_eq_true rfl) (fun o1 h1 => m_X11_cells k hB  σ o1 h1) hf (fun v1 s2 hf => ?_)
    refine v_icmp_ge (tgt := 50) 7 C dX11_fitsSomewhere_7 (by decide) hf (fun hf => ?_) (fun hf => ?_)
    · refine v_iconst (v := 0) 50 C dX11_fitsSomewhere_50 (by decide) ?_
      exact v_zretN 51 C rfl dX11_fitsSomewhere_51 (by decide) hf
    · refine v_iconst (v := 0) 10 C dX11_fitsSomewhere_10 (by decide) ?_
      refine v_istore_n (lv' := [(0, .ref (E.2.1 (k))), (1, .int x1), (2, .int x2), (3, .int 0)]) 11 C dX11_fitsSomewhere_11 rfl (by decide) rfl rfl ?_
      exact Vx.lv [0, 1, 2, 3] rfl (k_X11_fitsSomewhere_b12 C k hB (f_X11_fitsSomewhere_b2 k n) ih fu x1 x2 0 s2 hf)
def f_X11_fitsSomewhere (k : Nat) (x1 : Int32) (σ : Sg) : Rs := f_X11_fitsSomewhere_b2 k fu x1 0 σ
set_option maxRecDepth 100000 in
set_option maxHeartbeats 4000000 in
theorem k_X11_fitsSomewhere_b0 {q : Mc} {E : En} {L : List Nat} {o : Int32 × Sg} (C : Cx q E L cX11_fitsSomewhere 4 RX11 (some .boolean) (7)) (k : Nat) (hB : Bk L sh_AuntsPuzzleModel k) (x1 : Int32) (σ : Sg) (hf : f_X11_fitsSomewhere k x1 σ = some o) : Vx q E L 4 (some .boolean) o 0 [(0, .ref (E.2.1 (k))), (1, .int x1)] [] σ := by
  unfold f_X11_fitsSomewhere at hf
  refine v_iconst (v := 0) 0 C dX11_fitsSomewhere_0 (by decide) ?_
  refine v_istore_n (lv' := [(0, .ref (E.2.1 (k))), (1, .int x1), (2, .int 0)]) 1 C dX11_fitsSomewhere_1 rfl (by decide) rfl rfl ?_
  exact Vx.lv [0, 1, 2] rfl (k_X11_fitsSomewhere_b2 C k hB fu x1 0 σ hf)
theorem m_X11_fitsSomewhere {l : Launch} {E : En} {L : List Nat} (k : Nat) (hB : Bk L sh_AuntsPuzzleModel k) (x1 : Int32) (σ : Sg) (o : Int32 × Sg) (hf : f_X11_fitsSomewhere k x1 σ = some o) : Mi l yX11_fitsSomewhere cX11_fitsSomewhere 4 (some .boolean) (7) E L [.ref (E.2.1 (k)), .int x1] σ o :=
  Mi.of RX11 rfl (by decide) (Nat.le_of_ble_eq_true rfl) (fun q hq C => by subst hq; exact k_X11_fitsSomewhere_b0 C k hB x1 σ hf)
def f_X11_over_b37 (k : Nat) (r2 : Int32 → Sg → Rs) (x1 : Int32) (σ : Sg) : Rs := r2 (x1 + 1) σ
set_option maxRecDepth 100000 in
set_option maxHeartbeats 4000000 in
theorem k_X11_over_b37 {q : Mc} {E : En} {L : List Nat} {o : Int32 × Sg} (C : Cx q E L cX11_over 2 RX11 (some .int) (8)) (k : Nat) (hB : Bk L sh_AuntsPuzzleModel k) (r2 : Int32 → Sg → Rs) (hr2 : ∀ (x1 : Int32) (σ : Sg), r2 x1 σ = some o → Vx q E L 2 (some .int) o 2 [(0, .ref (E.2.1 (k))), (1, .int x1)] [] σ) (x1 : Int32) (σ : Sg) (hf : f_X11_over_b37 k r2 x1 σ = some o) : Vx q E L 2 (some .int) o 37 [(0, .ref (E.2.1 (k))), (1, .int x1)] [] σ := by
  unfold f_X11_over_b37 at hf
  refine v_iinc (v := x1 + 1) (lv' := [(0, .ref (E.2.1 (k))), (1, .int (x1 + 1))]) 37 C dX11_over_37 rfl (by rfl) (by decide) rfl rfl ?_
  refine v_goto (tgt := 2) 40 C dX11_over_40 (by decide) ?_
  exact Vx.lv [0, 1] rfl (hr2 (x1 + 1) σ hf)
def f_X11_over_b2 (k : Nat)  : Nat → Int32 → Sg → Rs
  | 0, _, _ => none
  | n + 1, x1, σ => p_call (f_X11_cells k σ) (fun v1 s2 => if v1 ≤ x1 then (some ((-9), s2)) else (p_rd s2 (k + 8) 16 x1 (fun v3 => if v3 = 0 then (p_call (f_X11_isLaid k x1 s2) (fun v4 s5 => if v4 = 0 then (p_call (f_X11_fitsSomewhere k x1 s5) (fun v6 s7 => if v6 = 0 then (some (x1, s7)) else (f_X11_over_b37 k (f_X11_over_b2 k n) x1 s7))) else (f_X11_over_b37 k (f_X11_over_b2 k n) x1 s5))) else (f_X11_over_b37 k (f_X11_over_b2 k n) x1 s2))))
set_option maxRecDepth 100000 in
set_option maxHeartbeats 4000000 in
theorem k_X11_over_b2 {q : Mc} {E : En} {L : List Nat} {o : Int32 × Sg} (C : Cx q E L cX11_over 2 RX11 (some .int) (8)) (k : Nat) (hB : Bk L sh_AuntsPuzzleModel k) (n : Nat) : ∀ (x1 : Int32) (σ : Sg), f_X11_over_b2 k n x1 σ = some o → Vx q E L 2 (some .int) o 2 [(0, .ref (E.2.1 (k))), (1, .int x1)] [] σ := by
  induction n with
  | zero => intro x1 σ hf; cases (show (none : Rs) = some o from hf)
  | succ n ih =>
    intro x1 σ hf
    rw [f_X11_over_b2] at hf
    refine v_iload_n 2 C dX11_over_2 rfl rfl ?_
    refine v_aload_n 3 C dX11_over_3 rfl rfl ?_
    refine v_callV (st := [.int x1]) 4 C [] lm_X11_91 ly_X11_cells (hB 0 _ rfl) (by decide) dX11_over_4 rfl (by decide) rfl (Nat.le_of_ble_eq_true rfl) (fun o1 h1 => m_X11_cells k hB  σ o1 h1) hf (fun v1 s2 hf => ?_)
    refine v_icmp_ge (tgt := 43) 7 C dX11_over_7 (by decide) hf (fun hf => ?_) (fun hf => ?_)
    · refine v_bipush (v := (-9)) 43 C dX11_over_43 (by decide) ?_
      exact v_iret 45 C rfl dX11_over_45 hf
    · refine v_aload_n 10 C dX11_over_10 rfl rfl ?_
      refine v_getR 11 C lk_X11_31 (hB 0 _ rfl) (by decide) rfl dX11_over_11 ?_
      refine v_iload_n 14 C dX11_over_14 rfl rfl ?_
      refine v_iald 15 C (hB 8 _ rfl) dX11_over_15 hf (fun v3 hf => ?_)
      refine v_if_ne (tgt := 37) 16 C dX11_over_16 (by decide) hf (fun hf => ?_) (fun hf => ?_)
      · exact Vx.lv [0, 1] rfl (k_X11_over_b37 C k hB (f_X11_over_b2 k n) ih x1 s2 hf)
      · refine v_aload_n 19 C dX11_over_19 rfl rfl ?_
        refine v_iload_n 20 C dX11_over_20 rfl rfl ?_
        refine v_callV (st := []) 21 C [.int x1] lm_X11_203 ly_X11_isLaid (hB 0 _ rfl) (by decide) dX11_over_21 rfl (by decide) rfl (Nat.le_of_ble_eq_true rfl) (fun o1 h1 => m_X11_isLaid k hB x1 s2 o1 h1) hf (fun v4 s5 hf => ?_)
        refine v_if_ne (tgt := 37) 24 C dX11_over_24 (by decide) hf (fun hf => ?_) (fun hf => ?_)
        · exact Vx.lv [0, 1] rfl (k_X11_over_b37 C k hB (f_X11_over_b2 k n) ih x1 s5 hf)
        · refine v_aload_n 27 C dX11_over_27 rfl rfl ?_
          refine v_iload_n 28 C dX11_over_28 rfl rfl ?_
          refine v_callV (st := []) 29 C [.int x1] lm_X11_270 ly_X11_fitsSomewhere (hB 0 _ rfl) (by decide) dX11_over_29 rfl (by decide) rfl (Nat.le_of_ble_eq_true rfl) (fun o1 h1 => m_X11_fitsSomewhere k hB x1 s5 o1 h1) hf (fun v6 s7 hf => ?_)
          refine v_if_ne (tgt := 37) 32 C dX11_over_32 (by decide) hf (fun hf => ?_) (fun hf => ?_)
          · exact Vx.lv [0, 1] rfl (k_X11_over_b37 C k hB (f_X11_over_b2 k n) ih x1 s7 hf)
          · refine v_iload_n 35 C dX11_over_35 rfl rfl ?_
            exact v_iret 36 C rfl dX11_over_36 hf
def f_X11_over (k : Nat) (σ : Sg) : Rs := f_X11_over_b2 k fu 0 σ
set_option maxRecDepth 100000 in
set_option maxHeartbeats 4000000 in
theorem k_X11_over_b0 {q : Mc} {E : En} {L : List Nat} {o : Int32 × Sg} (C : Cx q E L cX11_over 2 RX11 (some .int) (8)) (k : Nat) (hB : Bk L sh_AuntsPuzzleModel k) (σ : Sg) (hf : f_X11_over k σ = some o) : Vx q E L 2 (some .int) o 0 [(0, .ref (E.2.1 (k)))] [] σ := by
  unfold f_X11_over at hf
  refine v_iconst (v := 0) 0 C dX11_over_0 (by decide) ?_
  refine v_istore_n (lv' := [(0, .ref (E.2.1 (k))), (1, .int 0)]) 1 C dX11_over_1 rfl (by decide) rfl rfl ?_
  exact Vx.lv [0, 1] rfl (k_X11_over_b2 C k hB fu 0 σ hf)
theorem m_X11_over {l : Launch} {E : En} {L : List Nat} (k : Nat) (hB : Bk L sh_AuntsPuzzleModel k) (σ : Sg) (o : Int32 × Sg) (hf : f_X11_over k σ = some o) : Mi l yX11_over cX11_over 2 (some .int) (8) E L [.ref (E.2.1 (k))] σ o :=
  Mi.of RX11 rfl (by decide) (Nat.le_of_ble_eq_true rfl) (fun q hq C => by subst hq; exact k_X11_over_b0 C k hB  σ hf)
def f_X11_balanceOn_b65 (k : Nat) (r5 : Int32 → Int32 → Int32 → Int32 → Sg → Rs) (x1 : Int32) (x2 : Int32) (x3 : Int32) (x4 : Int32) (σ : Sg) : Rs := r5 x1 x2 x3 (x4 + 1) σ
set_option maxRecDepth 100000 in
set_option maxHeartbeats 4000000 in
theorem k_X11_balanceOn_b65 {q : Mc} {E : En} {L : List Nat} {o : Int32 × Sg} (C : Cx q E L cX11_balanceOn 6 RX11 (some .int) (4)) (k : Nat) (hB : Bk L sh_AuntsPuzzleModel k) (r5 : Int32 → Int32 → Int32 → Int32 → Sg → Rs) (hr5 : ∀ (x1 : Int32) (x2 : Int32) (x3 : Int32) (x4 : Int32) (σ : Sg), r5 x1 x2 x3 x4 σ = some o → Vx q E L 6 (some .int) o 5 [(0, .ref (E.2.1 (k))), (1, .int x1), (2, .int x2), (3, .int x3), (4, .int x4)] [] σ) (x1 : Int32) (x2 : Int32) (x3 : Int32) (x4 : Int32) (σ : Sg) (hf : f_X11_balanceOn_b65 k r5 x1 x2 x3 x4 σ = some o) : Vx q E L 6 (some .int) o 65 [(0, .ref (E.2.1 (k))), (1, .int x1), (2, .int x2), (3, .int x3), (4, .int x4)] [] σ := by
  unfold f_X11_balanceOn_b65 at hf
  refine v_iinc (v := x4 + 1) (lv' := [(0, .ref (E.2.1 (k))), (1, .int x1), (2, .int x2), (3, .int x3), (4, .int (x4 + 1))]) 65 C dX11_balanceOn_65 rfl (by rfl) (by decide) rfl rfl ?_
  refine v_goto (tgt := 5) 68 C dX11_balanceOn_68 (by decide) ?_
  exact Vx.lv [0, 1, 2, 3, 4] rfl (hr5 x1 x2 x3 (x4 + 1) σ hf)
def f_X11_balanceOn_b63 (k : Nat) (r5 : Int32 → Int32 → Int32 → Int32 → Sg → Rs) (x1 : Int32) (x2 : Int32) (x4 : Int32) (t0 : Int32) (t1 : Int32) (σ : Sg) : Rs := f_X11_balanceOn_b65 k r5 x1 x2 (t0 + t1) x4 σ
set_option maxRecDepth 100000 in
set_option maxHeartbeats 4000000 in
theorem k_X11_balanceOn_b63 {q : Mc} {E : En} {L : List Nat} {o : Int32 × Sg} (C : Cx q E L cX11_balanceOn 6 RX11 (some .int) (4)) (k : Nat) (hB : Bk L sh_AuntsPuzzleModel k) (r5 : Int32 → Int32 → Int32 → Int32 → Sg → Rs) (hr5 : ∀ (x1 : Int32) (x2 : Int32) (x3 : Int32) (x4 : Int32) (σ : Sg), r5 x1 x2 x3 x4 σ = some o → Vx q E L 6 (some .int) o 5 [(0, .ref (E.2.1 (k))), (1, .int x1), (2, .int x2), (3, .int x3), (4, .int x4)] [] σ) (x1 : Int32) (x2 : Int32) (x4 : Int32) (t0 : Int32) (t1 : Int32) (σ : Sg) (hf : f_X11_balanceOn_b63 k r5 x1 x2 x4 t0 t1 σ = some o) : Vx q E L 6 (some .int) o 63 [(0, .ref (E.2.1 (k))), (1, .int x1), (2, .int x2), (4, .int x4)] [.int t1, .int t0] σ := by
  unfold f_X11_balanceOn_b63 at hf
  refine v_iadd 63 C dX11_balanceOn_63 ?_
  refine v_istore_n (lv' := [(0, .ref (E.2.1 (k))), (1, .int x1), (2, .int x2), (4, .int x4), (3, .int (t0 + t1))]) 64 C dX11_balanceOn_64 rfl (by decide) rfl rfl ?_
  exact Vx.lv [0, 1, 2, 4, 3] rfl (k_X11_balanceOn_b65 C k hB r5 hr5 x1 x2 (t0 + t1) x4 σ hf)
def f_X11_balanceOn_b35 (k : Nat) (r5 : Int32 → Int32 → Int32 → Int32 → Sg → Rs) (x1 : Int32) (x2 : Int32) (x4 : Int32) (t0 : Int32) (t1 : Int32) (σ : Sg) : Rs := f_X11_balanceOn_b65 k r5 x1 x2 (t0 + t1) x4 σ
set_option maxRecDepth 100000 in
set_option maxHeartbeats 4000000 in
theorem k_X11_balanceOn_b35 {q : Mc} {E : En} {L : List Nat} {o : Int32 × Sg} (C : Cx q E L cX11_balanceOn 6 RX11 (some .int) (4)) (k : Nat) (hB : Bk L sh_AuntsPuzzleModel k) (r5 : Int32 → Int32 → Int32 → Int32 → Sg → Rs) (hr5 : ∀ (x1 : Int32) (x2 : Int32) (x3 : Int32) (x4 : Int32) (σ : Sg), r5 x1 x2 x3 x4 σ = some o → Vx q E L 6 (some .int) o 5 [(0, .ref (E.2.1 (k))), (1, .int x1), (2, .int x2), (3, .int x3), (4, .int x4)] [] σ) (x1 : Int32) (x2 : Int32) (x4 : Int32) (t0 : Int32) (t1 : Int32) (σ : Sg) (hf : f_X11_balanceOn_b35 k r5 x1 x2 x4 t0 t1 σ = some o) : Vx q E L 6 (some .int) o 35 [(0, .ref (E.2.1 (k))), (1, .int x1), (2, .int x2), (4, .int x4)] [.int t1, .int t0] σ := by
  unfold f_X11_balanceOn_b35 at hf
  refine v_iadd 35 C dX11_balanceOn_35 ?_
  refine v_istore_n (lv' := [(0, .ref (E.2.1 (k))), (1, .int x1), (2, .int x2), (4, .int x4), (3, .int (t0 + t1))]) 36 C dX11_balanceOn_36 rfl (by decide) rfl rfl ?_
  refine v_goto (tgt := 65) 37 C dX11_balanceOn_37 (by decide) ?_
  exact Vx.lv [0, 1, 2, 4, 3] rfl (k_X11_balanceOn_b65 C k hB r5 hr5 x1 x2 (t0 + t1) x4 σ hf)
def f_X11_balanceOn_b5 (k : Nat)  : Nat → Int32 → Int32 → Int32 → Int32 → Sg → Rs
  | 0, _, _, _, _, _ => none
  | n + 1, x1, x2, x3, x4, σ => if 4 ≤ x4 then (some (x3, σ)) else (p_call (f_X11_sideOf k x1 x4 σ) (fun v1 s2 => if x2 = 0 then (if v1 = 0 then (f_X11_balanceOn_b35 k (f_X11_balanceOn_b5 k n) x1 x2 x4 x3 1 s2) else (f_X11_balanceOn_b35 k (f_X11_balanceOn_b5 k n) x1 x2 x4 x3 0 s2)) else (if v1 = x2 then (f_X11_balanceOn_b63 k (f_X11_balanceOn_b5 k n) x1 x2 x4 x3 1 s2) else (if v1 = (-x2) then (f_X11_balanceOn_b63 k (f_X11_balanceOn_b5 k n) x1 x2 x4 x3 (-1) s2) else (f_X11_balanceOn_b63 k (f_X11_balanceOn_b5 k n) x1 x2 x4 x3 0 s2)))))
set_option maxRecDepth 100000 in
set_option maxHeartbeats 4000000 in
theorem k_X11_balanceOn_b5 {q : Mc} {E : En} {L : List Nat} {o : Int32 × Sg} (C : Cx q E L cX11_balanceOn 6 RX11 (some .int) (4)) (k : Nat) (hB : Bk L sh_AuntsPuzzleModel k) (n : Nat) : ∀ (x1 : Int32) (x2 : Int32) (x3 : Int32) (x4 : Int32) (σ : Sg), f_X11_balanceOn_b5 k n x1 x2 x3 x4 σ = some o → Vx q E L 6 (some .int) o 5 [(0, .ref (E.2.1 (k))), (1, .int x1), (2, .int x2), (3, .int x3), (4, .int x4)] [] σ := by
  induction n with
  | zero => intro x1 x2 x3 x4 σ hf; cases (show (none : Rs) = some o from hf)
  | succ n ih =>
    intro x1 x2 x3 x4 σ hf
    rw [f_X11_balanceOn_b5] at hf
    refine v_iload 5 C dX11_balanceOn_5 rfl ?_
    refine v_iconst (v := 4) 7 C dX11_balanceOn_7 (by decide) ?_
    refine v_icmp_ge (tgt := 71) 8 C dX11_balanceOn_8 (by decide) hf (fun hf => ?_) (fun hf => ?_)
    · refine v_iload_n 71 C dX11_balanceOn_71 rfl rfl ?_
      exact v_iret 72 C rfl dX11_balanceOn_72 hf
    · refine v_aload_n 11 C dX11_balanceOn_11 rfl rfl ?_
      refine v_iload_n 12 C dX11_balanceOn_12 rfl rfl ?_
      refine v_iload 13 C dX11_balanceOn_13 rfl ?_
      refine v_callV (st := []) 15 C [.int x1, .int x4] lm_X11_102 ly_X11_sideOf (hB 0 _ rfl) (by decide) dX11_balanceOn_15 rfl (by decide) rfl (Nat.le_of_ble_eq_true rfl) (fun o1 h1 => m_X11_sideOf k hB x1 x4 σ o1 h1) hf (fun v1 s2 hf => ?_)
      refine v_istore (lv' := [(0, .ref (E.2.1 (k))), (1, .int x1), (2, .int x2), (3, .int x3), (4, .int x4), (5, .int v1)]) 18 C dX11_balanceOn_18 (by decide) rfl rfl ?_
      refine v_iload_n 20 C dX11_balanceOn_20 rfl rfl ?_
      refine v_if_ne (tgt := 40) 21 C dX11_balanceOn_21 (by decide) hf (fun hf => ?_) (fun hf => ?_)
      · refine v_iload_n 40 C dX11_balanceOn_40 rfl rfl ?_
        refine v_iload 41 C dX11_balanceOn_41 rfl ?_
        refine v_iload_n 43 C dX11_balanceOn_43 rfl rfl ?_
        refine v_icmp_ne (tgt := 51) 44 C dX11_balanceOn_44 (by decide) hf (fun hf => ?_) (fun hf => ?_)
        · refine v_iload 51 C dX11_balanceOn_51 rfl ?_
          refine v_iload_n 53 C dX11_balanceOn_53 rfl rfl ?_
          refine v_ineg 54 C dX11_balanceOn_54 ?_
          refine v_icmp_ne (tgt := 62) 55 C dX11_balanceOn_55 (by decide) hf (fun hf => ?_) (fun hf => ?_)
          · refine v_iconst (v := 0) 62 C dX11_balanceOn_62 (by decide) ?_
            exact Vx.lv [0, 1, 2, 4] rfl (k_X11_balanceOn_b63 C k hB (f_X11_balanceOn_b5 k n) ih x1 x2 x4 x3 0 s2 hf)
          · refine v_iconst (v := (-1)) 58 C dX11_balanceOn_58 (by decide) ?_
            refine v_goto (tgt := 63) 59 C dX11_balanceOn_59 (by decide) ?_
            exact Vx.lv [0, 1, 2, 4] rfl (k_X11_balanceOn_b63 C k hB (f_X11_balanceOn_b5 k n) ih x1 x2 x4 x3 (-1) s2 hf)
        · refine v_iconst (v := 1) 47 C dX11_balanceOn_47 (by decide) ?_
          refine v_goto (tgt := 63) 48 C dX11_balanceOn_48 (by decide) ?_
          exact Vx.lv [0, 1, 2, 4] rfl (k_X11_balanceOn_b63 C k hB (f_X11_balanceOn_b5 k n) ih x1 x2 x4 x3 1 s2 hf)
      · refine v_iload_n 24 C dX11_balanceOn_24 rfl rfl ?_
        refine v_iload 25 C dX11_balanceOn_25 rfl ?_
        refine v_if_ne (tgt := 34) 27 C dX11_balanceOn_27 (by decide) hf (fun hf => ?_) (fun hf => ?_)
        · refine v_iconst (v := 0) 34 C dX11_balanceOn_34 (by decide) ?_
          exact Vx.lv [0, 1, 2, 4] rfl (k_X11_balanceOn_b35 C k hB (f_X11_balanceOn_b5 k n) ih x1 x2 x4 x3 0 s2 hf)
        · refine v_iconst (v := 1) 30 C dX11_balanceOn_30 (by decide) ?_
          refine v_goto (tgt := 35) 31 C dX11_balanceOn_31 (by decide) ?_
          exact Vx.lv [0, 1, 2, 4] rfl (k_X11_balanceOn_b35 C k hB (f_X11_balanceOn_b5 k n) ih x1 x2 x4 x3 1 s2 hf)
def f_X11_balanceOn (k : Nat) (x1 : Int32) (x2 : Int32) (σ : Sg) : Rs := f_X11_balanceOn_b5 k fu x1 x2 0 0 σ
set_option maxRecDepth 100000 in
set_option maxHeartbeats 4000000 in
theorem k_X11_balanceOn_b0 {q : Mc} {E : En} {L : List Nat} {o : Int32 × Sg} (C : Cx q E L cX11_balanceOn 6 RX11 (some .int) (4)) (k : Nat) (hB : Bk L sh_AuntsPuzzleModel k) (x1 : Int32) (x2 : Int32) (σ : Sg) (hf : f_X11_balanceOn k x1 x2 σ = some o) : Vx q E L 6 (some .int) o 0 [(0, .ref (E.2.1 (k))), (1, .int x1), (2, .int x2)] [] σ := by
  unfold f_X11_balanceOn at hf
  refine v_iconst (v := 0) 0 C dX11_balanceOn_0 (by decide) ?_
  refine v_istore_n (lv' := [(0, .ref (E.2.1 (k))), (1, .int x1), (2, .int x2), (3, .int 0)]) 1 C dX11_balanceOn_1 rfl (by decide) rfl rfl ?_
  refine v_iconst (v := 0) 2 C dX11_balanceOn_2 (by decide) ?_
  refine v_istore (lv' := [(0, .ref (E.2.1 (k))), (1, .int x1), (2, .int x2), (3, .int 0), (4, .int 0)]) 3 C dX11_balanceOn_3 (by decide) rfl rfl ?_
  exact Vx.lv [0, 1, 2, 3, 4] rfl (k_X11_balanceOn_b5 C k hB fu x1 x2 0 0 σ hf)
theorem m_X11_balanceOn {l : Launch} {E : En} {L : List Nat} (k : Nat) (hB : Bk L sh_AuntsPuzzleModel k) (x1 : Int32) (x2 : Int32) (σ : Sg) (o : Int32 × Sg) (hf : f_X11_balanceOn k x1 x2 σ = some o) : Mi l yX11_balanceOn cX11_balanceOn 6 (some .int) (4) E L [.ref (E.2.1 (k)), .int x1, .int x2] σ o :=
  Mi.of RX11 rfl (by decide) (Nat.le_of_ble_eq_true rfl) (fun q hq C => by subst hq; exact k_X11_balanceOn_b0 C k hB x1 x2 σ hf)
def f_X11_balanceOf_b32 (k : Nat) (r4 : Int32 → Int32 → Int32 → Sg → Rs) (x1 : Int32) (x3 : Int32) (t0 : Int32) (t1 : Int32) (σ : Sg) : Rs := r4 x1 (t0 + t1) (x3 + 1) σ
set_option maxRecDepth 100000 in
set_option maxHeartbeats 4000000 in
theorem k_X11_balanceOf_b32 {q : Mc} {E : En} {L : List Nat} {o : Int32 × Sg} (C : Cx q E L cX11_balanceOf 4 RX11 (some .int) (5)) (k : Nat) (hB : Bk L sh_AuntsPuzzleModel k) (r4 : Int32 → Int32 → Int32 → Sg → Rs) (hr4 : ∀ (x1 : Int32) (x2 : Int32) (x3 : Int32) (σ : Sg), r4 x1 x2 x3 σ = some o → Vx q E L 4 (some .int) o 4 [(0, .ref (E.2.1 (k))), (1, .int x1), (2, .int x2), (3, .int x3)] [] σ) (x1 : Int32) (x3 : Int32) (t0 : Int32) (t1 : Int32) (σ : Sg) (hf : f_X11_balanceOf_b32 k r4 x1 x3 t0 t1 σ = some o) : Vx q E L 4 (some .int) o 32 [(0, .ref (E.2.1 (k))), (1, .int x1), (3, .int x3)] [.int t1, .int t0] σ := by
  unfold f_X11_balanceOf_b32 at hf
  refine v_iadd 32 C dX11_balanceOf_32 ?_
  refine v_istore_n (lv' := [(0, .ref (E.2.1 (k))), (1, .int x1), (3, .int x3), (2, .int (t0 + t1))]) 33 C dX11_balanceOf_33 rfl (by decide) rfl rfl ?_
  refine v_iinc (v := x3 + 1) (lv' := [(0, .ref (E.2.1 (k))), (1, .int x1), (3, .int (x3 + 1)), (2, .int (t0 + t1))]) 34 C dX11_balanceOf_34 rfl (by rfl) (by decide) rfl rfl ?_
  refine v_goto (tgt := 4) 37 C dX11_balanceOf_37 (by decide) ?_
  exact Vx.lv [0, 1, 3, 2] rfl (hr4 x1 (t0 + t1) (x3 + 1) σ hf)
def f_X11_balanceOf_b4 (k : Nat)  : Nat → Int32 → Int32 → Int32 → Sg → Rs
  | 0, _, _, _, _ => none
  | n + 1, x1, x2, x3, σ => p_call (f_X11_cells k σ) (fun v1 s2 => if v1 ≤ x3 then (some (x2, s2)) else (p_rd s2 (k + 8) 16 x3 (fun v3 => if v3 = 0 then (p_call (f_X11_balanceOn k x3 x1 s2) (fun v4 s5 => f_X11_balanceOf_b32 k (f_X11_balanceOf_b4 k n) x1 x3 x2 v4 s5)) else (f_X11_balanceOf_b32 k (f_X11_balanceOf_b4 k n) x1 x3 x2 0 s2))))
set_option maxRecDepth 100000 in
set_option maxHeartbeats 4000000 in
theorem k_X11_balanceOf_b4 {q : Mc} {E : En} {L : List Nat} {o : Int32 × Sg} (C : Cx q E L cX11_balanceOf 4 RX11 (some .int) (5)) (k : Nat) (hB : Bk L sh_AuntsPuzzleModel k) (n : Nat) : ∀ (x1 : Int32) (x2 : Int32) (x3 : Int32) (σ : Sg), f_X11_balanceOf_b4 k n x1 x2 x3 σ = some o → Vx q E L 4 (some .int) o 4 [(0, .ref (E.2.1 (k))), (1, .int x1), (2, .int x2), (3, .int x3)] [] σ := by
  induction n with
  | zero => intro x1 x2 x3 σ hf; cases (show (none : Rs) = some o from hf)
  | succ n ih =>
    intro x1 x2 x3 σ hf
    rw [f_X11_balanceOf_b4] at hf
    refine v_iload_n 4 C dX11_balanceOf_4 rfl rfl ?_
    refine v_aload_n 5 C dX11_balanceOf_5 rfl rfl ?_
    refine v_callV (st := [.int x3]) 6 C [] lm_X11_91 ly_X11_cells (hB 0 _ rfl) (by decide) dX11_balanceOf_6 rfl (by decide) rfl (Nat.le_of_ble_eq_true rfl) (fun o1 h1 => m_X11_cells k hB  σ o1 h1) hf (fun v1 s2 hf => ?_)
    refine v_icmp_ge (tgt := 40) 9 C dX11_balanceOf_9 (by decide) hf (fun hf => ?_) (fun hf => ?_)
    · refine v_iload_n 40 C dX11_balanceOf_40 rfl rfl ?_
      exact v_iret 41 C rfl dX11_balanceOf_41 hf
    · refine v_iload_n 12 C dX11_balanceOf_12 rfl rfl ?_
      refine v_aload_n 13 C dX11_balanceOf_13 rfl rfl ?_
      refine v_getR 14 C lk_X11_31 (hB 0 _ rfl) (by decide) rfl dX11_balanceOf_14 ?_
      refine v_iload_n 17 C dX11_balanceOf_17 rfl rfl ?_
      refine v_iald 18 C (hB 8 _ rfl) dX11_balanceOf_18 hf (fun v3 hf => ?_)
      refine v_if_ne (tgt := 31) 19 C dX11_balanceOf_19 (by decide) hf (fun hf => ?_) (fun hf => ?_)
      · refine v_iconst (v := 0) 31 C dX11_balanceOf_31 (by decide) ?_
        exact Vx.lv [0, 1, 3] rfl (k_X11_balanceOf_b32 C k hB (f_X11_balanceOf_b4 k n) ih x1 x3 x2 0 s2 hf)
      · refine v_aload_n 22 C dX11_balanceOf_22 rfl rfl ?_
        refine v_iload_n 23 C dX11_balanceOf_23 rfl rfl ?_
        refine v_iload_n 24 C dX11_balanceOf_24 rfl rfl ?_
        refine v_callV (st := [.int x2]) 25 C [.int x3, .int x1] lm_X11_273 ly_X11_balanceOn (hB 0 _ rfl) (by decide) dX11_balanceOf_25 rfl (by decide) rfl (Nat.le_of_ble_eq_true rfl) (fun o1 h1 => m_X11_balanceOn k hB x3 x1 s2 o1 h1) hf (fun v4 s5 hf => ?_)
        refine v_goto (tgt := 32) 28 C dX11_balanceOf_28 (by decide) ?_
        exact Vx.lv [0, 1, 3] rfl (k_X11_balanceOf_b32 C k hB (f_X11_balanceOf_b4 k n) ih x1 x3 x2 v4 s5 hf)
def f_X11_balanceOf (k : Nat) (x1 : Int32) (σ : Sg) : Rs := f_X11_balanceOf_b4 k fu x1 0 0 σ
set_option maxRecDepth 100000 in
set_option maxHeartbeats 4000000 in
theorem k_X11_balanceOf_b0 {q : Mc} {E : En} {L : List Nat} {o : Int32 × Sg} (C : Cx q E L cX11_balanceOf 4 RX11 (some .int) (5)) (k : Nat) (hB : Bk L sh_AuntsPuzzleModel k) (x1 : Int32) (σ : Sg) (hf : f_X11_balanceOf k x1 σ = some o) : Vx q E L 4 (some .int) o 0 [(0, .ref (E.2.1 (k))), (1, .int x1)] [] σ := by
  unfold f_X11_balanceOf at hf
  refine v_iconst (v := 0) 0 C dX11_balanceOf_0 (by decide) ?_
  refine v_istore_n (lv' := [(0, .ref (E.2.1 (k))), (1, .int x1), (2, .int 0)]) 1 C dX11_balanceOf_1 rfl (by decide) rfl rfl ?_
  refine v_iconst (v := 0) 2 C dX11_balanceOf_2 (by decide) ?_
  refine v_istore_n (lv' := [(0, .ref (E.2.1 (k))), (1, .int x1), (2, .int 0), (3, .int 0)]) 3 C dX11_balanceOf_3 rfl (by decide) rfl rfl ?_
  exact Vx.lv [0, 1, 2, 3] rfl (k_X11_balanceOf_b4 C k hB fu x1 0 0 σ hf)
theorem m_X11_balanceOf {l : Launch} {E : En} {L : List Nat} (k : Nat) (hB : Bk L sh_AuntsPuzzleModel k) (x1 : Int32) (σ : Sg) (o : Int32 × Sg) (hf : f_X11_balanceOf k x1 σ = some o) : Mi l yX11_balanceOf cX11_balanceOf 4 (some .int) (5) E L [.ref (E.2.1 (k)), .int x1] σ o :=
  Mi.of RX11 rfl (by decide) (Nat.le_of_ble_eq_true rfl) (fun q hq C => by subst hq; exact k_X11_balanceOf_b0 C k hB x1 σ hf)
def f_X11_balance (k : Nat) (x1 : Int32) (σ : Sg) : Rs := p_call (f_X11_isIn x1 1 9 σ) (fun v1 s2 => if v1 = 0 then (p_call (f_X11_lower k (-1) s2) (fun v3 s4 => some (v3, s4))) else (p_call (f_X11_balanceOf k x1 s2) (fun v5 s6 => some (v5, s6))))
set_option maxRecDepth 100000 in
set_option maxHeartbeats 4000000 in
theorem k_X11_balance_b0 {q : Mc} {E : En} {L : List Nat} {o : Int32 × Sg} (C : Cx q E L cX11_balance 2 RX11 (some .int) (6)) (k : Nat) (hB : Bk L sh_AuntsPuzzleModel k) (x1 : Int32) (σ : Sg) (hf : f_X11_balance k x1 σ = some o) : Vx q E L 2 (some .int) o 0 [(0, .ref (E.2.1 (k))), (1, .int x1)] [] σ := by
  unfold f_X11_balance at hf
  refine v_iload_n 0 C dX11_balance_0 rfl rfl ?_
  refine v_iconst (v := 1) 1 C dX11_balance_1 (by decide) ?_
  refine v_bipush (v := 9) 2 C dX11_balance_2 (by decide) ?_
  refine v_callS (st := []) 4 C [.int x1, .int 1, .int 9] lm_X11_124 lz_X11_isIn dX11_balance_4 rfl (by decide) rfl (Nat.le_of_ble_eq_true rfl) (fun o1 h1 => m_X11_isIn   x1 1 9 σ o1 h1) hf (fun v1 s2 hf => ?_)
  refine v_if_eq (tgt := 18) 7 C dX11_balance_7 (by decide) hf (fun hf => ?_) (fun hf => ?_)
  · refine v_aload_n 18 C dX11_balance_18 rfl rfl ?_
    refine v_iconst (v := (-1)) 19 C dX11_balance_19 (by decide) ?_
    refine v_callV (st := []) 20 C [.int (-1)] lm_X11_193 ly_X11_lower (hB 0 _ rfl) (by decide) dX11_balance_20 rfl (by decide) rfl (Nat.le_of_ble_eq_true rfl) (fun o1 h1 => m_X11_lower k hB (-1) s2 o1 h1) hf (fun v3 s4 hf => ?_)
    exact v_iret 23 C rfl dX11_balance_23 hf
  · refine v_aload_n 10 C dX11_balance_10 rfl rfl ?_
    refine v_iload_n 11 C dX11_balance_11 rfl rfl ?_
    refine v_callV (st := []) 12 C [.int x1] lm_X11_276 ly_X11_balanceOf (hB 0 _ rfl) (by decide) dX11_balance_12 rfl (by decide) rfl (Nat.le_of_ble_eq_true rfl) (fun o1 h1 => m_X11_balanceOf k hB x1 s2 o1 h1) hf (fun v5 s6 hf => ?_)
    refine v_goto (tgt := 23) 15 C dX11_balance_15 (by decide) ?_
    exact v_iret 23 C rfl dX11_balance_23 hf
theorem m_X11_balance {l : Launch} {E : En} {L : List Nat} (k : Nat) (hB : Bk L sh_AuntsPuzzleModel k) (x1 : Int32) (σ : Sg) (o : Int32 × Sg) (hf : f_X11_balance k x1 σ = some o) : Mi l yX11_balance cX11_balance 2 (some .int) (6) E L [.ref (E.2.1 (k)), .int x1] σ o :=
  Mi.of RX11 rfl (by decide) (Nat.le_of_ble_eq_true rfl) (fun q hq C => by subst hq; exact k_X11_balance_b0 C k hB x1 σ hf)
def f_X11_doesLack_b12 (k : Nat) (r2 : Int32 → Sg → Rs) : Nat → Int32 → Int32 → Int32 → Sg → Rs
  | 0, _, _, _, _ => none
  | n + 1, x1, x2, x3, σ => p_call (f_X11_cells k σ) (fun v1 s2 => if v1 ≤ x3 then (p_call (f_X11_balanceOf k x1 s2) (fun v3 s4 => if v3 = x2 then (r2 (x1 + 1) s4) else (some (1, s4)))) else (p_call (f_X11_balanceOn k x3 x1 s2) (fun v5 s6 => f_X11_doesLack_b12 k r2 n x1 (x2 + v5) (x3 + 1) s6)))
set_option maxRecDepth 100000 in
set_option maxHeartbeats 4000000 in
theorem k_X11_doesLack_b12 {q : Mc} {E : En} {L : List Nat} {o : Int32 × Sg} (C : Cx q E L cX11_doesLack 4 RX11 (some .boolean) (6)) (k : Nat) (hB : Bk L sh_AuntsPuzzleModel k) (r2 : Int32 → Sg → Rs) (hr2 : ∀ (x1 : Int32) (σ : Sg), r2 x1 σ = some o → Vx q E L 4 (some .boolean) o 2 [(0, .ref (E.2.1 (k))), (1, .int x1)] [] σ) (n : Nat) : ∀ (x1 : Int32) (x2 : Int32) (x3 : Int32) (σ : Sg), f_X11_doesLack_b12 k r2 n x1 x2 x3 σ = some o → Vx q E L 4 (some .boolean) o 12 [(0, .ref (E.2.1 (k))), (1, .int x1), (2, .int x2), (3, .int x3)] [] σ := by
  induction n with
  | zero => intro x1 x2 x3 σ hf; cases (show (none : Rs) = some o from hf)
  | succ n ih =>
    intro x1 x2 x3 σ hf
    rw [f_X11_doesLack_b12] at hf
    refine v_iload_n 12 C dX11_doesLack_12 rfl rfl ?_
    refine v_aload_n 13 C dX11_doesLack_13 rfl rfl ?_
    refine v_callV (st := [.int x3]) 14 C [] lm_X11_91 ly_X11_cells (hB 0 _ rfl) (by decide) dX11_doesLack_14 rfl (by decide) rfl (Nat.le_of_ble_eq_true rfl) (fun o1 h1 => m_X11_cells k hB  σ o1 h1) hf (fun v1 s2 hf => ?_)
    refine v_icmp_ge (tgt := 35) 17 C dX11_doesLack_17 (by decide) hf (fun hf => ?_) (fun hf => ?_)
    · refine v_aload_n 35 C dX11_doesLack_35 rfl rfl ?_
      refine v_iload_n 36 C dX11_doesLack_36 rfl rfl ?_
      refine v_callV (st := []) 37 C [.int x1] lm_X11_276 ly_X11_balanceOf (hB 0 _ rfl) (by decide) dX11_doesLack_37 rfl (by decide) rfl (Nat.le_of_ble_eq_true rfl) (fun o1 h1 => m_X11_balanceOf k hB x1 s2 o1 h1) hf (fun v3 s4 hf => ?_)
      refine v_iload_n 40 C dX11_doesLack_40 rfl rfl ?_
      refine v_icmp_eq (tgt := 46) 41 C dX11_doesLack_41 (by decide) hf (fun hf => ?_) (fun hf => ?_)
      · refine v_iinc (v := x1 + 1) (lv' := [(0, .ref (E.2.1 (k))), (1, .int (x1 + 1)), (2, .int x2), (3, .int x3)]) 46 C dX11_doesLack_46 rfl (by rfl) (by decide) rfl rfl ?_
        refine v_goto (tgt := 2) 49 C dX11_doesLack_49 (by decide) ?_
        exact Vx.lv [0, 1] rfl (hr2 (x1 + 1) s4 hf)
      · refine v_iconst (v := 1) 44 C dX11_doesLack_44 (by decide) ?_
        exact v_zretN 45 C rfl dX11_doesLack_45 (by decide) hf
    · refine v_iload_n 20 C dX11_doesLack_20 rfl rfl ?_
      refine v_aload_n 21 C dX11_doesLack_21 rfl rfl ?_
      refine v_iload_n 22 C dX11_doesLack_22 rfl rfl ?_
      refine v_iload_n 23 C dX11_doesLack_23 rfl rfl ?_
      refine v_callV (st := [.int x2]) 24 C [.int x3, .int x1] lm_X11_273 ly_X11_balanceOn (hB 0 _ rfl) (by decide) dX11_doesLack_24 rfl (by decide) rfl (Nat.le_of_ble_eq_true rfl) (fun o1 h1 => m_X11_balanceOn k hB x3 x1 s2 o1 h1) hf (fun v5 s6 hf => ?_)
      refine v_iadd 27 C dX11_doesLack_27 ?_
      refine v_istore_n (lv' := [(0, .ref (E.2.1 (k))), (1, .int x1), (2, .int (x2 + v5)), (3, .int x3)]) 28 C dX11_doesLack_28 rfl (by decide) rfl rfl ?_
      refine v_iinc (v := x3 + 1) (lv' := [(0, .ref (E.2.1 (k))), (1, .int x1), (2, .int (x2 + v5)), (3, .int (x3 + 1))]) 29 C dX11_doesLack_29 rfl (by rfl) (by decide) rfl rfl ?_
      refine v_goto (tgt := 12) 32 C dX11_doesLack_32 (by decide) ?_
      exact Vx.lv [0, 1, 2, 3] rfl (ih x1 (x2 + v5) (x3 + 1) s6 hf)
def f_X11_doesLack_b2 (k : Nat)  : Nat → Int32 → Sg → Rs
  | 0, _, _ => none
  | n + 1, x1, σ => if 10 ≤ x1 then (some (0, σ)) else (f_X11_doesLack_b12 k (f_X11_doesLack_b2 k n) fu x1 0 0 σ)
set_option maxRecDepth 100000 in
set_option maxHeartbeats 4000000 in
theorem k_X11_doesLack_b2 {q : Mc} {E : En} {L : List Nat} {o : Int32 × Sg} (C : Cx q E L cX11_doesLack 4 RX11 (some .boolean) (6)) (k : Nat) (hB : Bk L sh_AuntsPuzzleModel k) (n : Nat) : ∀ (x1 : Int32) (σ : Sg), f_X11_doesLack_b2 k n x1 σ = some o → Vx q E L 4 (some .boolean) o 2 [(0, .ref (E.2.1 (k))), (1, .int x1)] [] σ := by
  induction n with
  | zero => intro x1 σ hf; cases (show (none : Rs) = some o from hf)
  | succ n ih =>
    intro x1 σ hf
    rw [f_X11_doesLack_b2] at hf
    refine v_iload_n 2 C dX11_doesLack_2 rfl rfl ?_
    refine v_bipush (v := 10) 3 C dX11_doesLack_3 (by decide) ?_
    refine v_icmp_ge (tgt := 52) 5 C dX11_doesLack_5 (by decide) hf (fun hf => ?_) (fun hf => ?_)
    · refine v_iconst (v := 0) 52 C dX11_doesLack_52 (by decide) ?_
      exact v_zretN 53 C rfl dX11_doesLack_53 (by decide) hf
    · refine v_iconst (v := 0) 8 C dX11_doesLack_8 (by decide) ?_
      refine v_istore_n (lv' := [(0, .ref (E.2.1 (k))), (1, .int x1), (2, .int 0)]) 9 C dX11_doesLack_9 rfl (by decide) rfl rfl ?_
      refine v_iconst (v := 0) 10 C dX11_doesLack_10 (by decide) ?_
      refine v_istore_n (lv' := [(0, .ref (E.2.1 (k))), (1, .int x1), (2, .int 0), (3, .int 0)]) 11 C dX11_doesLack_11 rfl (by decide) rfl rfl ?_
      exact Vx.lv [0, 1, 2, 3] rfl (k_X11_doesLack_b12 C k hB (f_X11_doesLack_b2 k n) ih fu x1 0 0 σ hf)
def f_X11_doesLack (k : Nat) (σ : Sg) : Rs := f_X11_doesLack_b2 k fu 0 σ
set_option maxRecDepth 100000 in
set_option maxHeartbeats 4000000 in
theorem k_X11_doesLack_b0 {q : Mc} {E : En} {L : List Nat} {o : Int32 × Sg} (C : Cx q E L cX11_doesLack 4 RX11 (some .boolean) (6)) (k : Nat) (hB : Bk L sh_AuntsPuzzleModel k) (σ : Sg) (hf : f_X11_doesLack k σ = some o) : Vx q E L 4 (some .boolean) o 0 [(0, .ref (E.2.1 (k)))] [] σ := by
  unfold f_X11_doesLack at hf
  refine v_iconst (v := 0) 0 C dX11_doesLack_0 (by decide) ?_
  refine v_istore_n (lv' := [(0, .ref (E.2.1 (k))), (1, .int 0)]) 1 C dX11_doesLack_1 rfl (by decide) rfl rfl ?_
  exact Vx.lv [0, 1] rfl (k_X11_doesLack_b2 C k hB fu 0 σ hf)
theorem m_X11_doesLack {l : Launch} {E : En} {L : List Nat} (k : Nat) (hB : Bk L sh_AuntsPuzzleModel k) (σ : Sg) (o : Int32 × Sg) (hf : f_X11_doesLack k σ = some o) : Mi l yX11_doesLack cX11_doesLack 4 (some .boolean) (6) E L [.ref (E.2.1 (k))] σ o :=
  Mi.of RX11 rfl (by decide) (Nat.le_of_ble_eq_true rfl) (fun q hq C => by subst hq; exact k_X11_doesLack_b0 C k hB  σ hf)
def f_X11_lacks (k : Nat) (σ : Sg) : Rs := p_call (f_X11_doesLack k σ) (fun v1 s2 => if v1 = 0 then (some (0, s2)) else (some (1, s2)))
set_option maxRecDepth 100000 in
set_option maxHeartbeats 4000000 in
theorem k_X11_lacks_b0 {q : Mc} {E : En} {L : List Nat} {o : Int32 × Sg} (C : Cx q E L cX11_lacks 1 RX11 (some .int) (7)) (k : Nat) (hB : Bk L sh_AuntsPuzzleModel k) (σ : Sg) (hf : f_X11_lacks k σ = some o) : Vx q E L 1 (some .int) o 0 [(0, .ref (E.2.1 (k)))] [] σ := by
  unfold f_X11_lacks at hf
  refine v_aload_n 0 C dX11_lacks_0 rfl rfl ?_
  refine v_callV (st := []) 1 C [] lm_X11_279 ly_X11_doesLack (hB 0 _ rfl) (by decide) dX11_lacks_1 rfl (by decide) rfl (Nat.le_of_ble_eq_true rfl) (fun o1 h1 => m_X11_doesLack k hB  σ o1 h1) hf (fun v1 s2 hf => ?_)
  refine v_if_eq (tgt := 11) 4 C dX11_lacks_4 (by decide) hf (fun hf => ?_) (fun hf => ?_)
  · refine v_iconst (v := 0) 11 C dX11_lacks_11 (by decide) ?_
    exact v_iret 12 C rfl dX11_lacks_12 hf
  · refine v_iconst (v := 1) 7 C dX11_lacks_7 (by decide) ?_
    refine v_goto (tgt := 12) 8 C dX11_lacks_8 (by decide) ?_
    exact v_iret 12 C rfl dX11_lacks_12 hf
theorem m_X11_lacks {l : Launch} {E : En} {L : List Nat} (k : Nat) (hB : Bk L sh_AuntsPuzzleModel k) (σ : Sg) (o : Int32 × Sg) (hf : f_X11_lacks k σ = some o) : Mi l yX11_lacks cX11_lacks 1 (some .int) (7) E L [.ref (E.2.1 (k))] σ o :=
  Mi.of RX11 rfl (by decide) (Nat.le_of_ble_eq_true rfl) (fun q hq C => by subst hq; exact k_X11_lacks_b0 C k hB  σ hf)
def f_X11_which_b116 (k : Nat) (r13 : Int32 → Int32 → Sg → Rs) (x2 : Int32) (t0 : Int32) (t1 : Int32) (σ : Sg) : Rs := r13 (t0 ||| t1) (x2 + 1) σ
set_option maxRecDepth 100000 in
set_option maxHeartbeats 4000000 in
theorem k_X11_which_b116 {q : Mc} {E : En} {L : List Nat} {o : Int32 × Sg} (C : Cx q E L cX11_which 7 RX11 (some .int) (7)) (k : Nat) (hB : Bk L sh_AuntsPuzzleModel k) (r13 : Int32 → Int32 → Sg → Rs) (hr13 : ∀ (x1 : Int32) (x2 : Int32) (σ : Sg), r13 x1 x2 σ = some o → Vx q E L 7 (some .int) o 13 [(0, .ref (E.2.1 (k))), (1, .int x1), (2, .int x2)] [] σ) (x2 : Int32) (t0 : Int32) (t1 : Int32) (σ : Sg) (hf : f_X11_which_b116 k r13 x2 t0 t1 σ = some o) : Vx q E L 7 (some .int) o 116 [(0, .ref (E.2.1 (k))), (2, .int x2)] [.int t1, .int t0] σ := by
  unfold f_X11_which_b116 at hf
  refine v_ior 116 C dX11_which_116 ?_
  refine v_istore_n (lv' := [(0, .ref (E.2.1 (k))), (2, .int x2), (1, .int (t0 ||| t1))]) 117 C dX11_which_117 rfl (by decide) rfl rfl ?_
  refine v_iinc (v := x2 + 1) (lv' := [(0, .ref (E.2.1 (k))), (2, .int (x2 + 1)), (1, .int (t0 ||| t1))]) 118 C dX11_which_118 rfl (by rfl) (by decide) rfl rfl ?_
  refine v_goto (tgt := 13) 121 C dX11_which_121 (by decide) ?_
  exact Vx.lv [0, 2, 1] rfl (hr13 (t0 ||| t1) (x2 + 1) σ hf)
def f_X11_which_b97 (k : Nat) (r13 : Int32 → Int32 → Sg → Rs) (r26 : Int32 → Int32 → Int32 → Int32 → Sg → Rs) (x1 : Int32) (x2 : Int32) (x4 : Int32) (t0 : Int32) (σ : Sg) : Rs := r26 x1 x2 t0 (x4 + 1) σ
set_option maxRecDepth 100000 in
set_option maxHeartbeats 4000000 in
theorem k_X11_which_b97 {q : Mc} {E : En} {L : List Nat} {o : Int32 × Sg} (C : Cx q E L cX11_which 7 RX11 (some .int) (7)) (k : Nat) (hB : Bk L sh_AuntsPuzzleModel k) (r13 : Int32 → Int32 → Sg → Rs) (hr13 : ∀ (x1 : Int32) (x2 : Int32) (σ : Sg), r13 x1 x2 σ = some o → Vx q E L 7 (some .int) o 13 [(0, .ref (E.2.1 (k))), (1, .int x1), (2, .int x2)] [] σ) (r26 : Int32 → Int32 → Int32 → Int32 → Sg → Rs) (hr26 : ∀ (x1 : Int32) (x2 : Int32) (x3 : Int32) (x4 : Int32) (σ : Sg), r26 x1 x2 x3 x4 σ = some o → Vx q E L 7 (some .int) o 26 [(0, .ref (E.2.1 (k))), (1, .int x1), (2, .int x2), (3, .int x3), (4, .int x4)] [] σ) (x1 : Int32) (x2 : Int32) (x4 : Int32) (t0 : Int32) (σ : Sg) (hf : f_X11_which_b97 k r13 r26 x1 x2 x4 t0 σ = some o) : Vx q E L 7 (some .int) o 97 [(0, .ref (E.2.1 (k))), (1, .int x1), (2, .int x2), (4, .int x4)] [.int t0] σ := by
  unfold f_X11_which_b97 at hf
  refine v_istore_n (lv' := [(0, .ref (E.2.1 (k))), (1, .int x1), (2, .int x2), (4, .int x4), (3, .int t0)]) 97 C dX11_which_97 rfl (by decide) rfl rfl ?_
  refine v_iinc (v := x4 + 1) (lv' := [(0, .ref (E.2.1 (k))), (1, .int x1), (2, .int x2), (4, .int (x4 + 1)), (3, .int t0)]) 98 C dX11_which_98 rfl (by rfl) (by decide) rfl rfl ?_
  refine v_goto (tgt := 26) 101 C dX11_which_101 (by decide) ?_
  exact Vx.lv [0, 1, 2, 4, 3] rfl (hr26 x1 x2 t0 (x4 + 1) σ hf)
def f_X11_which_b96 (k : Nat) (r13 : Int32 → Int32 → Sg → Rs) (r26 : Int32 → Int32 → Int32 → Int32 → Sg → Rs) (x1 : Int32) (x2 : Int32) (x4 : Int32) (σ : Sg) : Rs := f_X11_which_b97 k r13 r26 x1 x2 x4 0 σ
set_option maxRecDepth 100000 in
set_option maxHeartbeats 4000000 in
theorem k_X11_which_b96 {q : Mc} {E : En} {L : List Nat} {o : Int32 × Sg} (C : Cx q E L cX11_which 7 RX11 (some .int) (7)) (k : Nat) (hB : Bk L sh_AuntsPuzzleModel k) (r13 : Int32 → Int32 → Sg → Rs) (hr13 : ∀ (x1 : Int32) (x2 : Int32) (σ : Sg), r13 x1 x2 σ = some o → Vx q E L 7 (some .int) o 13 [(0, .ref (E.2.1 (k))), (1, .int x1), (2, .int x2)] [] σ) (r26 : Int32 → Int32 → Int32 → Int32 → Sg → Rs) (hr26 : ∀ (x1 : Int32) (x2 : Int32) (x3 : Int32) (x4 : Int32) (σ : Sg), r26 x1 x2 x3 x4 σ = some o → Vx q E L 7 (some .int) o 26 [(0, .ref (E.2.1 (k))), (1, .int x1), (2, .int x2), (3, .int x3), (4, .int x4)] [] σ) (x1 : Int32) (x2 : Int32) (x4 : Int32) (σ : Sg) (hf : f_X11_which_b96 k r13 r26 x1 x2 x4 σ = some o) : Vx q E L 7 (some .int) o 96 [(0, .ref (E.2.1 (k))), (1, .int x1), (2, .int x2), (4, .int x4)] [] σ := by
  unfold f_X11_which_b96 at hf
  refine v_iconst (v := 0) 96 C dX11_which_96 (by decide) ?_
  exact Vx.lv [0, 1, 2, 3] rfl (k_X11_which_b97 C k hB r13 hr13 r26 hr26 x1 x2 x4 0 σ hf)
def f_X11_which_b68 (k : Nat) (r13 : Int32 → Int32 → Sg → Rs) (r26 : Int32 → Int32 → Int32 → Int32 → Sg → Rs) (r39 : Int32 → Int32 → Int32 → Int32 → Int32 → Int32 → Sg → Rs) (x1 : Int32) (x2 : Int32) (x3 : Int32) (x4 : Int32) (x6 : Int32) (t0 : Int32) (t1 : Int32) (σ : Sg) : Rs := r39 x1 x2 x3 x4 (t0 + t1) (x6 + 1) σ
set_option maxRecDepth 100000 in
set_option maxHeartbeats 4000000 in
theorem k_X11_which_b68 {q : Mc} {E : En} {L : List Nat} {o : Int32 × Sg} (C : Cx q E L cX11_which 7 RX11 (some .int) (7)) (k : Nat) (hB : Bk L sh_AuntsPuzzleModel k) (r13 : Int32 → Int32 → Sg → Rs) (hr13 : ∀ (x1 : Int32) (x2 : Int32) (σ : Sg), r13 x1 x2 σ = some o → Vx q E L 7 (some .int) o 13 [(0, .ref (E.2.1 (k))), (1, .int x1), (2, .int x2)] [] σ) (r26 : Int32 → Int32 → Int32 → Int32 → Sg → Rs) (hr26 : ∀ (x1 : Int32) (x2 : Int32) (x3 : Int32) (x4 : Int32) (σ : Sg), r26 x1 x2 x3 x4 σ = some o → Vx q E L 7 (some .int) o 26 [(0, .ref (E.2.1 (k))), (1, .int x1), (2, .int x2), (3, .int x3), (4, .int x4)] [] σ) (r39 : Int32 → Int32 → Int32 → Int32 → Int32 → Int32 → Sg → Rs) (hr39 : ∀ (x1 : Int32) (x2 : Int32) (x3 : Int32) (x4 : Int32) (x5 : Int32) (x6 : Int32) (σ : Sg), r39 x1 x2 x3 x4 x5 x6 σ = some o → Vx q E L 7 (some .int) o 39 [(0, .ref (E.2.1 (k))), (1, .int x1), (2, .int x2), (3, .int x3), (4, .int x4), (5, .int x5), (6, .int x6)] [] σ) (x1 : Int32) (x2 : Int32) (x3 : Int32) (x4 : Int32) (x6 : Int32) (t0 : Int32) (t1 : Int32) (σ : Sg) (hf : f_X11_which_b68 k r13 r26 r39 x1 x2 x3 x4 x6 t0 t1 σ = some o) : Vx q E L 7 (some .int) o 68 [(0, .ref (E.2.1 (k))), (1, .int x1), (2, .int x2), (3, .int x3), (4, .int x4), (6, .int x6)] [.int t1, .int t0] σ := by
  unfold f_X11_which_b68 at hf
  refine v_iadd 68 C dX11_which_68 ?_
  refine v_istore (lv' := [(0, .ref (E.2.1 (k))), (1, .int x1), (2, .int x2), (3, .int x3), (4, .int x4), (6, .int x6), (5, .int (t0 + t1))]) 69 C dX11_which_69 (by decide) rfl rfl ?_
  refine v_iinc (v := x6 + 1) (lv' := [(0, .ref (E.2.1 (k))), (1, .int x1), (2, .int x2), (3, .int x3), (4, .int x4), (6, .int (x6 + 1)), (5, .int (t0 + t1))]) 71 C dX11_which_71 rfl (by rfl) (by decide) rfl rfl ?_
  refine v_goto (tgt := 39) 74 C dX11_which_74 (by decide) ?_
  exact Vx.lv [0, 1, 2, 3, 4, 6, 5] rfl (hr39 x1 x2 x3 x4 (t0 + t1) (x6 + 1) σ hf)
def f_X11_which_b39 (k : Nat) (r13 : Int32 → Int32 → Sg → Rs) (r26 : Int32 → Int32 → Int32 → Int32 → Sg → Rs) : Nat → Int32 → Int32 → Int32 → Int32 → Int32 → Int32 → Sg → Rs
  | 0, _, _, _, _, _, _, _ => none
  | n + 1, x1, x2, x3, x4, x5, x6, σ => p_call (f_X11_cells k σ) (fun v1 s2 => if v1 ≤ x6 then (if x3 = 0 then (f_X11_which_b96 k r13 r26 x1 x2 x4 s2) else (p_call (f_X11_balanceOf k x4 s2) (fun v3 s4 => if x5 = v3 then (f_X11_which_b97 k r13 r26 x1 x2 x4 1 s4) else (f_X11_which_b96 k r13 r26 x1 x2 x4 s4)))) else (if x6 = x2 then (f_X11_which_b68 k r13 r26 (f_X11_which_b39 k r13 r26 n) x1 x2 x3 x4 x6 x5 0 s2) else (p_call (f_X11_balanceOn k x6 x4 s2) (fun v5 s6 => f_X11_which_b68 k r13 r26 (f_X11_which_b39 k r13 r26 n) x1 x2 x3 x4 x6 x5 v5 s6))))
set_option maxRecDepth 100000 in
set_option maxHeartbeats 4000000 in
theorem k_X11_which_b39 {q : Mc} {E : En} {L : List Nat} {o : Int32 × Sg} (C : Cx q E L cX11_which 7 RX11 (some .int) (7)) (k : Nat) (hB : Bk L sh_AuntsPuzzleModel k) (r13 : Int32 → Int32 → Sg → Rs) (hr13 : ∀ (x1 : Int32) (x2 : Int32) (σ : Sg), r13 x1 x2 σ = some o → Vx q E L 7 (some .int) o 13 [(0, .ref (E.2.1 (k))), (1, .int x1), (2, .int x2)] [] σ) (r26 : Int32 → Int32 → Int32 → Int32 → Sg → Rs) (hr26 : ∀ (x1 : Int32) (x2 : Int32) (x3 : Int32) (x4 : Int32) (σ : Sg), r26 x1 x2 x3 x4 σ = some o → Vx q E L 7 (some .int) o 26 [(0, .ref (E.2.1 (k))), (1, .int x1), (2, .int x2), (3, .int x3), (4, .int x4)] [] σ) (n : Nat) : ∀ (x1 : Int32) (x2 : Int32) (x3 : Int32) (x4 : Int32) (x5 : Int32) (x6 : Int32) (σ : Sg), f_X11_which_b39 k r13 r26 n x1 x2 x3 x4 x5 x6 σ = some o → Vx q E L 7 (some .int) o 39 [(0, .ref (E.2.1 (k))), (1, .int x1), (2, .int x2), (3, .int x3), (4, .int x4), (5, .int x5), (6, .int x6)] [] σ := by
  induction n with
  | zero => intro x1 x2 x3 x4 x5 x6 σ hf; cases (show (none : Rs) = some o from hf)
  | succ n ih =>
    intro x1 x2 x3 x4 x5 x6 σ hf
    rw [f_X11_which_b39] at hf
    refine v_iload 39 C dX11_which_39 rfl ?_
    refine v_aload_n 41 C dX11_which_41 rfl rfl ?_
    refine v_callV (st := [.int x6]) 42 C [] lm_X11_91 ly_X11_cells (hB 0 _ rfl) (by decide) dX11_which_42 rfl (by decide) rfl (Nat.le_of_ble_eq_true rfl) (fun o1 h1 => m_X11_cells k hB  σ o1 h1) hf (fun v1 s2 hf => ?_)
    refine v_icmp_ge (tgt := 77) 45 C dX11_which_45 (by decide) hf (fun hf => ?_) (fun hf => ?_)
    · refine v_iload_n 77 C dX11_which_77 rfl rfl ?_
      refine v_if_eq (tgt := 96) 78 C dX11_which_78 (by decide) hf (fun hf => ?_) (fun hf => ?_)
      · exact Vx.lv [0, 1, 2, 4] rfl (k_X11_which_b96 C k hB r13 hr13 r26 hr26 x1 x2 x4 s2 hf)
      · refine v_iload 81 C dX11_which_81 rfl ?_
        refine v_aload_n 83 C dX11_which_83 rfl rfl ?_
        refine v_iload 84 C dX11_which_84 rfl ?_
        refine v_callV (st := [.int x5]) 86 C [.int x4] lm_X11_276 ly_X11_balanceOf (hB 0 _ rfl) (by decide) dX11_which_86 rfl (by decide) rfl (Nat.le_of_ble_eq_true rfl) (fun o1 h1 => m_X11_balanceOf k hB x4 s2 o1 h1) hf (fun v3 s4 hf => ?_)
        refine v_icmp_ne (tgt := 96) 89 C dX11_which_89 (by decide) hf (fun hf => ?_) (fun hf => ?_)
        · exact Vx.lv [0, 1, 2, 4] rfl (k_X11_which_b96 C k hB r13 hr13 r26 hr26 x1 x2 x4 s4 hf)
        · refine v_iconst (v := 1) 92 C dX11_which_92 (by decide) ?_
          refine v_goto (tgt := 97) 93 C dX11_which_93 (by decide) ?_
          exact Vx.lv [0, 1, 2, 4] rfl (k_X11_which_b97 C k hB r13 hr13 r26 hr26 x1 x2 x4 1 s4 hf)
    · refine v_iload 48 C dX11_which_48 rfl ?_
      refine v_iload 50 C dX11_which_50 rfl ?_
      refine v_iload_n 52 C dX11_which_52 rfl rfl ?_
      refine v_icmp_ne (tgt := 60) 53 C dX11_which_53 (by decide) hf (fun hf => ?_) (fun hf => ?_)
      · refine v_aload_n 60 C dX11_which_60 rfl rfl ?_
        refine v_iload 61 C dX11_which_61 rfl ?_
        refine v_iload 63 C dX11_which_63 rfl ?_
        refine v_callV (st := [.int x5]) 65 C [.int x6, .int x4] lm_X11_273 ly_X11_balanceOn (hB 0 _ rfl) (by decide) dX11_which_65 rfl (by decide) rfl (Nat.le_of_ble_eq_true rfl) (fun o1 h1 => m_X11_balanceOn k hB x6 x4 s2 o1 h1) hf (fun v5 s6 hf => ?_)
        exact Vx.lv [0, 1, 2, 3, 4, 6] rfl (k_X11_which_b68 C k hB r13 hr13 r26 hr26 (f_X11_which_b39 k r13 r26 n) ih x1 x2 x3 x4 x6 x5 v5 s6 hf)
      · refine v_iconst (v := 0) 56 C dX11_which_56 (by decide) ?_
        refine v_goto (tgt := 68) 57 C dX11_which_57 (by decide) ?_
        exact Vx.lv [0, 1, 2, 3, 4, 6] rfl (k_X11_which_b68 C k hB r13 hr13 r26 hr26 (f_X11_which_b39 k r13 r26 n) ih x1 x2 x3 x4 x6 x5 0 s2 hf)
def f_X11_which_b26 (k : Nat) (r13 : Int32 → Int32 → Sg → Rs) : Nat → Int32 → Int32 → Int32 → Int32 → Sg → Rs
  | 0, _, _, _, _, _ => none
  | n + 1, x1, x2, x3, x4, σ => if 10 ≤ x4 then (if x3 = 0 then (f_X11_which_b116 k r13 x2 x1 0 σ) else (f_X11_which_b116 k r13 x2 x1 (1 <<< (x2 &&& 31)) σ)) else (f_X11_which_b39 k r13 (f_X11_which_b26 k r13 n) fu x1 x2 x3 x4 0 0 σ)
set_option maxRecDepth 100000 in
set_option maxHeartbeats 4000000 in
theorem k_X11_which_b26 {q : Mc} {E : En} {L : List Nat} {o : Int32 × Sg} (C : Cx q E L cX11_which 7 RX11 (some .int) (7)) (k : Nat) (hB : Bk L sh_AuntsPuzzleModel k) (r13 : Int32 → Int32 → Sg → Rs) (hr13 : ∀ (x1 : Int32) (x2 : Int32) (σ : Sg), r13 x1 x2 σ = some o → Vx q E L 7 (some .int) o 13 [(0, .ref (E.2.1 (k))), (1, .int x1), (2, .int x2)] [] σ) (n : Nat) : ∀ (x1 : Int32) (x2 : Int32) (x3 : Int32) (x4 : Int32) (σ : Sg), f_X11_which_b26 k r13 n x1 x2 x3 x4 σ = some o → Vx q E L 7 (some .int) o 26 [(0, .ref (E.2.1 (k))), (1, .int x1), (2, .int x2), (3, .int x3), (4, .int x4)] [] σ := by
  induction n with
  | zero => intro x1 x2 x3 x4 σ hf; cases (show (none : Rs) = some o from hf)
  | succ n ih =>
    intro x1 x2 x3 x4 σ hf
    rw [f_X11_which_b26] at hf
    refine v_iload 26 C dX11_which_26 rfl ?_
    refine v_bipush (v := 10) 28 C dX11_which_28 (by decide) ?_
    refine v_icmp_ge (tgt := 104) 30 C dX11_which_30 (by decide) hf (fun hf => ?_) (fun hf => ?_)
    · refine v_iload_n 104 C dX11_which_104 rfl rfl ?_
      refine v_iload_n 105 C dX11_which_105 rfl rfl ?_
      refine v_if_eq (tgt := 115) 106 C dX11_which_106 (by decide) hf (fun hf => ?_) (fun hf => ?_)
      · refine v_iconst (v := 0) 115 C dX11_which_115 (by decide) ?_
        exact Vx.lv [0, 2] rfl (k_X11_which_b116 C k hB r13 hr13 x2 x1 0 σ hf)
      · refine v_iconst (v := 1) 109 C dX11_which_109 (by decide) ?_
        refine v_iload_n 110 C dX11_which_110 rfl rfl ?_
        refine v_ishl 111 C dX11_which_111 ?_
        refine v_goto (tgt := 116) 112 C dX11_which_112 (by decide) ?_
        exact Vx.lv [0, 2] rfl (k_X11_which_b116 C k hB r13 hr13 x2 x1 (1 <<< (x2 &&& 31)) σ hf)
    · refine v_iconst (v := 0) 33 C dX11_which_33 (by decide) ?_
      refine v_istore (lv' := [(0, .ref (E.2.1 (k))), (1, .int x1), (2, .int x2), (3, .int x3), (4, .int x4), (5, .int 0)]) 34 C dX11_which_34 (by decide) rfl rfl ?_
      refine v_iconst (v := 0) 36 C dX11_which_36 (by decide) ?_
      refine v_istore (lv' := [(0, .ref (E.2.1 (k))), (1, .int x1), (2, .int x2), (3, .int x3), (4, .int x4), (5, .int 0), (6, .int 0)]) 37 C dX11_which_37 (by decide) rfl rfl ?_
      exact Vx.lv [0, 1, 2, 3, 4, 5, 6] rfl (k_X11_which_b39 C k hB r13 hr13 (f_X11_which_b26 k r13 n) ih fu x1 x2 x3 x4 0 0 σ hf)
def f_X11_which_b13 (k : Nat)  : Nat → Int32 → Int32 → Sg → Rs
  | 0, _, _, _ => none
  | n + 1, x1, x2, σ => p_call (f_X11_cells k σ) (fun v1 s2 => if v1 ≤ x2 then (some (x1, s2)) else (f_X11_which_b26 k (f_X11_which_b13 k n) fu x1 x2 1 0 s2))
set_option maxRecDepth 100000 in
set_option maxHeartbeats 4000000 in
theorem k_X11_which_b13 {q : Mc} {E : En} {L : List Nat} {o : Int32 × Sg} (C : Cx q E L cX11_which 7 RX11 (some .int) (7)) (k : Nat) (hB : Bk L sh_AuntsPuzzleModel k) (n : Nat) : ∀ (x1 : Int32) (x2 : Int32) (σ : Sg), f_X11_which_b13 k n x1 x2 σ = some o → Vx q E L 7 (some .int) o 13 [(0, .ref (E.2.1 (k))), (1, .int x1), (2, .int x2)] [] σ := by
  induction n with
  | zero => intro x1 x2 σ hf; cases (show (none : Rs) = some o from hf)
  | succ n ih =>
    intro x1 x2 σ hf
    rw [f_X11_which_b13] at hf
    refine v_iload_n 13 C dX11_which_13 rfl rfl ?_
    refine v_aload_n 14 C dX11_which_14 rfl rfl ?_
    refine v_callV (st := [.int x2]) 15 C [] lm_X11_91 ly_X11_cells (hB 0 _ rfl) (by decide) dX11_which_15 rfl (by decide) rfl (Nat.le_of_ble_eq_true rfl) (fun o1 h1 => m_X11_cells k hB  σ o1 h1) hf (fun v1 s2 hf => ?_)
    refine v_icmp_ge (tgt := 124) 18 C dX11_which_18 (by decide) hf (fun hf => ?_) (fun hf => ?_)
    · refine v_iload_n 124 C dX11_which_124 rfl rfl ?_
      exact v_iret 125 C rfl dX11_which_125 hf
    · refine v_iconst (v := 1) 21 C dX11_which_21 (by decide) ?_
      refine v_istore_n (lv' := [(0, .ref (E.2.1 (k))), (1, .int x1), (2, .int x2), (3, .int 1)]) 22 C dX11_which_22 rfl (by decide) rfl rfl ?_
      refine v_iconst (v := 0) 23 C dX11_which_23 (by decide) ?_
      refine v_istore (lv' := [(0, .ref (E.2.1 (k))), (1, .int x1), (2, .int x2), (3, .int 1), (4, .int 0)]) 24 C dX11_which_24 (by decide) rfl rfl ?_
      exact Vx.lv [0, 1, 2, 3, 4] rfl (k_X11_which_b26 C k hB (f_X11_which_b13 k n) ih fu x1 x2 1 0 s2 hf)
def f_X11_which (k : Nat) (σ : Sg) : Rs := p_call (f_X11_doesLack k σ) (fun v1 s2 => if v1 = 0 then (some (0, s2)) else (f_X11_which_b13 k fu 0 0 s2))
set_option maxRecDepth 100000 in
set_option maxHeartbeats 4000000 in
theorem k_X11_which_b0 {q : Mc} {E : En} {L : List Nat} {o : Int32 × Sg} (C : Cx q E L cX11_which 7 RX11 (some .int) (7)) (k : Nat) (hB : Bk L sh_AuntsPuzzleModel k) (σ : Sg) (hf : f_X11_which k σ = some o) : Vx q E L 7 (some .int) o 0 [(0, .ref (E.2.1 (k)))] [] σ := by
  unfold f_X11_which at hf
  refine v_aload_n 0 C dX11_which_0 rfl rfl ?_
  refine v_callV (st := []) 1 C [] lm_X11_279 ly_X11_doesLack (hB 0 _ rfl) (by decide) dX11_which_1 rfl (by decide) rfl (Nat.le_of_ble_eq_true rfl) (fun o1 h1 => m_X11_doesLack k hB  σ o1 h1) hf (fun v1 s2 hf => ?_)
  refine v_if_ne (tgt := 9) 4 C dX11_which_4 (by decide) hf (fun hf => ?_) (fun hf => ?_)
  · refine v_iconst (v := 0) 9 C dX11_which_9 (by decide) ?_
    refine v_istore_n (lv' := [(0, .ref (E.2.1 (k))), (1, .int 0)]) 10 C dX11_which_10 rfl (by decide) rfl rfl ?_
    refine v_iconst (v := 0) 11 C dX11_which_11 (by decide) ?_
    refine v_istore_n (lv' := [(0, .ref (E.2.1 (k))), (1, .int 0), (2, .int 0)]) 12 C dX11_which_12 rfl (by decide) rfl rfl ?_
    exact Vx.lv [0, 1, 2] rfl (k_X11_which_b13 C k hB fu 0 0 s2 hf)
  · refine v_iconst (v := 0) 7 C dX11_which_7 (by decide) ?_
    exact v_iret 8 C rfl dX11_which_8 hf
theorem m_X11_which {l : Launch} {E : En} {L : List Nat} (k : Nat) (hB : Bk L sh_AuntsPuzzleModel k) (σ : Sg) (o : Int32 × Sg) (hf : f_X11_which k σ = some o) : Mi l yX11_which cX11_which 7 (some .int) (7) E L [.ref (E.2.1 (k))] σ o :=
  Mi.of RX11 rfl (by decide) (Nat.le_of_ble_eq_true rfl) (fun q hq C => by subst hq; exact k_X11_which_b0 C k hB  σ hf)
def f_X11_divisor_b4  : Nat → Int32 → Int32 → Sg → Rs
  | 0, _, _, _ => none
  | n + 1, x2, x3, σ => if x3 = 0 then (some (x2, σ)) else (p_nz x3 (f_X11_divisor_b4 n x3 (x2 - x2 / x3 * x3) σ))
set_option maxRecDepth 100000 in
set_option maxHeartbeats 4000000 in
theorem k_X11_divisor_b4 {q : Mc} {E : En} {L : List Nat} {o : Int32 × Sg} (C : Cx q E L cX11_divisor 5 RX11 (some .int) (1)) (n : Nat) : ∀ (x2 : Int32) (x3 : Int32) (σ : Sg), f_X11_divisor_b4 n x2 x3 σ = some o → Vx q E L 5 (some .int) o 4 [(2, .int x2), (3, .int x3)] [] σ := by
  induction n with
  | zero => intro x2 x3 σ hf; cases (show (none : Rs) = some o from hf)
  | succ n ih =>
    intro x2 x3 σ hf
    rw [f_X11_divisor_b4] at hf
    refine v_iload_n 4 C dX11_divisor_4 rfl rfl ?_
    refine v_if_eq (tgt := 21) 5 C dX11_divisor_5 (by decide) hf (fun hf => ?_) (fun hf => ?_)
    · refine v_iload_n 21 C dX11_divisor_21 rfl rfl ?_
      exact v_iret 22 C rfl dX11_divisor_22 hf
    · refine v_iload_n 8 C dX11_divisor_8 rfl rfl ?_
      refine v_iload_n 9 C dX11_divisor_9 rfl rfl ?_
      refine v_irem 10 C dX11_divisor_10 hf (fun hf => ?_)
      refine v_istore (lv' := [(2, .int x2), (3, .int x3), (4, .int (x2 - x2 / x3 * x3))]) 11 C dX11_divisor_11 (by decide) rfl rfl ?_
      refine v_iload_n 13 C dX11_divisor_13 rfl rfl ?_
      refine v_istore_n (lv' := [(2, .int x3), (3, .int x3), (4, .int (x2 - x2 / x3 * x3))]) 14 C dX11_divisor_14 rfl (by decide) rfl rfl ?_
      refine v_iload 15 C dX11_divisor_15 rfl ?_
      refine v_istore_n (lv' := [(2, .int x3), (3, .int (x2 - x2 / x3 * x3)), (4, .int (x2 - x2 / x3 * x3))]) 17 C dX11_divisor_17 rfl (by decide) rfl rfl ?_
      refine v_goto (tgt := 4) 18 C dX11_divisor_18 (by decide) ?_
      exact Vx.lv [0, 1] rfl (ih x3 (x2 - x2 / x3 * x3) σ hf)
def f_X11_divisor (x0 : Int32) (x1 : Int32) (σ : Sg) : Rs := f_X11_divisor_b4 fu x0 x1 σ
set_option maxRecDepth 100000 in
set_option maxHeartbeats 4000000 in
theorem k_X11_divisor_b0 {q : Mc} {E : En} {L : List Nat} {o : Int32 × Sg} (C : Cx q E L cX11_divisor 5 RX11 (some .int) (1)) (x0 : Int32) (x1 : Int32) (σ : Sg) (hf : f_X11_divisor x0 x1 σ = some o) : Vx q E L 5 (some .int) o 0 [(0, .int x0), (1, .int x1)] [] σ := by
  unfold f_X11_divisor at hf
  refine v_iload_n 0 C dX11_divisor_0 rfl rfl ?_
  refine v_istore_n (lv' := [(0, .int x0), (1, .int x1), (2, .int x0)]) 1 C dX11_divisor_1 rfl (by decide) rfl rfl ?_
  refine v_iload_n 2 C dX11_divisor_2 rfl rfl ?_
  refine v_istore_n (lv' := [(0, .int x0), (1, .int x1), (2, .int x0), (3, .int x1)]) 3 C dX11_divisor_3 rfl (by decide) rfl rfl ?_
  exact Vx.lv [2, 3] rfl (k_X11_divisor_b4 C fu x0 x1 σ hf)
theorem m_X11_divisor {l : Launch} {E : En} {L : List Nat} (x0 : Int32) (x1 : Int32) (σ : Sg) (o : Int32 × Sg) (hf : f_X11_divisor x0 x1 σ = some o) : Mi l yX11_divisor cX11_divisor 5 (some .int) (1) E L [.int x0, .int x1] σ o :=
  Mi.of RX11 rfl (by decide) (Nat.le_of_ble_eq_true rfl) (fun q hq C => by subst hq; exact k_X11_divisor_b0 C   x0 x1 σ hf)
def f_X11_mine_b80 (k : Nat) (x1 : Int32) (x3 : Int32) (t0 : Int32) (σ : Sg) : Rs := p_rd σ (k + 11) 6 x1 (fun v1 => p_call (f_X11_divisor v1 x3 σ) (fun v2 s3 => p_nz v2 (some (t0 / v2, s3))))
set_option maxRecDepth 100000 in
set_option maxHeartbeats 4000000 in
theorem k_X11_mine_b80 {q : Mc} {E : En} {L : List Nat} {o : Int32 × Sg} (C : Cx q E L cX11_mine 5 RX11 (some .int) (2)) (k : Nat) (hB : Bk L sh_AuntsPuzzleModel k) (x1 : Int32) (x3 : Int32) (t0 : Int32) (σ : Sg) (hf : f_X11_mine_b80 k x1 x3 t0 σ = some o) : Vx q E L 5 (some .int) o 80 [(0, .ref (E.2.1 (k))), (1, .int x1), (3, .int x3)] [.int t0] σ := by
  unfold f_X11_mine_b80 at hf
  refine v_aload_n 80 C dX11_mine_80 rfl rfl ?_
  refine v_getR 81 C lk_X11_40 (hB 0 _ rfl) (by decide) rfl dX11_mine_81 ?_
  refine v_iload_n 84 C dX11_mine_84 rfl rfl ?_
  refine v_iald 85 C (hB 11 _ rfl) dX11_mine_85 hf (fun v1 hf => ?_)
  refine v_iload_n 86 C dX11_mine_86 rfl rfl ?_
  refine v_callS (st := [.int t0]) 87 C [.int v1, .int x3] lm_X11_282 lz_X11_divisor dX11_mine_87 rfl (by decide) rfl (Nat.le_of_ble_eq_true rfl) (fun o1 h1 => m_X11_divisor   v1 x3 σ o1 h1) hf (fun v2 s3 hf => ?_)
  refine v_idiv 90 C dX11_mine_90 hf (fun hf => ?_)
  exact v_iret 91 C rfl dX11_mine_91 hf
def f_X11_mine_b35 (k : Nat)  : Nat → Int32 → Int32 → Int32 → Int32 → Sg → Rs
  | 0, _, _, _, _, _ => none
  | n + 1, x1, x2, x3, x4, σ => if (σ (k) 13) ≤ x4 then (if x3 = 0 then (some (x2, σ)) else (if x2 = 0 then (p_rd σ (k + 11) 6 x1 (fun v1 => f_X11_mine_b80 k x1 x3 v1 σ)) else (f_X11_mine_b80 k x1 x3 x3 σ))) else (p_rd σ (k + 11) 6 x4 (fun v2 => f_X11_mine_b35 k n x1 x2 (x3 + v2) (x4 + 1) σ))
set_option maxRecDepth 100000 in
set_option maxHeartbeats 4000000 in
theorem k_X11_mine_b35 {q : Mc} {E : En} {L : List Nat} {o : Int32 × Sg} (C : Cx q E L cX11_mine 5 RX11 (some .int) (2)) (k : Nat) (hB : Bk L sh_AuntsPuzzleModel k) (n : Nat) : ∀ (x1 : Int32) (x2 : Int32) (x3 : Int32) (x4 : Int32) (σ : Sg), f_X11_mine_b35 k n x1 x2 x3 x4 σ = some o → Vx q E L 5 (some .int) o 35 [(0, .ref (E.2.1 (k))), (1, .int x1), (2, .int x2), (3, .int x3), (4, .int x4)] [] σ := by
  induction n with
  | zero => intro x1 x2 x3 x4 σ hf; cases (show (none : Rs) = some o from hf)
  | succ n ih =>
    intro x1 x2 x3 x4 σ hf
    rw [f_X11_mine_b35] at hf
    refine v_iload 35 C dX11_mine_35 rfl ?_
    refine v_aload_n 37 C dX11_mine_37 rfl rfl ?_
    refine v_getI (dum := 0) 38 C lk_X11_95 (hB 0 _ rfl) (by decide) rfl dX11_mine_38 ?_
    refine v_icmp_ge (tgt := 60) 41 C dX11_mine_41 (by decide) hf (fun hf => ?_) (fun hf => ?_)
    · refine v_iload_n 60 C dX11_mine_60 rfl rfl ?_
      refine v_if_ne (tgt := 66) 61 C dX11_mine_61 (by decide) hf (fun hf => ?_) (fun hf => ?_)
      · refine v_iload_n 66 C dX11_mine_66 rfl rfl ?_
        refine v_if_ne (tgt := 79) 67 C dX11_mine_67 (by decide) hf (fun hf => ?_) (fun hf => ?_)
        · refine v_iload_n 79 C dX11_mine_79 rfl rfl ?_
          exact Vx.lv [0, 1, 3] rfl (k_X11_mine_b80 C k hB x1 x3 x3 σ hf)
        · refine v_aload_n 70 C dX11_mine_70 rfl rfl ?_
          refine v_getR 71 C lk_X11_40 (hB 0 _ rfl) (by decide) rfl dX11_mine_71 ?_
          refine v_iload_n 74 C dX11_mine_74 rfl rfl ?_
          refine v_iald 75 C (hB 11 _ rfl) dX11_mine_75 hf (fun v1 hf => ?_)
          refine v_goto (tgt := 80) 76 C dX11_mine_76 (by decide) ?_
          exact Vx.lv [0, 1, 3] rfl (k_X11_mine_b80 C k hB x1 x3 v1 σ hf)
      · refine v_iload_n 64 C dX11_mine_64 rfl rfl ?_
        exact v_iret 65 C rfl dX11_mine_65 hf
    · refine v_iload_n 44 C dX11_mine_44 rfl rfl ?_
      refine v_aload_n 45 C dX11_mine_45 rfl rfl ?_
      refine v_getR 46 C lk_X11_40 (hB 0 _ rfl) (by decide) rfl dX11_mine_46 ?_
      refine v_iload 49 C dX11_mine_49 rfl ?_
      refine v_iald 51 C (hB 11 _ rfl) dX11_mine_51 hf (fun v2 hf => ?_)
      refine v_iadd 52 C dX11_mine_52 ?_
      refine v_istore_n (lv' := [(0, .ref (E.2.1 (k))), (1, .int x1), (2, .int x2), (3, .int (x3 + v2)), (4, .int x4)]) 53 C dX11_mine_53 rfl (by decide) rfl rfl ?_
      refine v_iinc (v := x4 + 1) (lv' := [(0, .ref (E.2.1 (k))), (1, .int x1), (2, .int x2), (3, .int (x3 + v2)), (4, .int (x4 + 1))]) 54 C dX11_mine_54 rfl (by rfl) (by decide) rfl rfl ?_
      refine v_goto (tgt := 35) 57 C dX11_mine_57 (by decide) ?_
      exact Vx.lv [0, 1, 2, 3, 4] rfl (ih x1 x2 (x3 + v2) (x4 + 1) σ hf)
def f_X11_mine (k : Nat) (x1 : Int32) (x2 : Int32) (σ : Sg) : Rs := p_call (f_X11_isPerson k x1 σ) (fun v1 s2 => if v1 = 0 then (p_call (f_X11_no k (-1) s2) (fun v7 s8 => some (v7, s8))) else (p_call (f_X11_isIn x2 0 1 s2) (fun v3 s4 => if v3 = 0 then (p_call (f_X11_no k (-2) s4) (fun v5 s6 => some (v5, s6))) else (f_X11_mine_b35 k fu x1 x2 0 0 s4))))
set_option maxRecDepth 100000 in
set_option maxHeartbeats 4000000 in
theorem k_X11_mine_b0 {q : Mc} {E : En} {L : List Nat} {o : Int32 × Sg} (C : Cx q E L cX11_mine 5 RX11 (some .int) (2)) (k : Nat) (hB : Bk L sh_AuntsPuzzleModel k) (x1 : Int32) (x2 : Int32) (σ : Sg) (hf : f_X11_mine k x1 x2 σ = some o) : Vx q E L 5 (some .int) o 0 [(0, .ref (E.2.1 (k))), (1, .int x1), (2, .int x2)] [] σ := by
  unfold f_X11_mine at hf
  refine v_aload_n 0 C dX11_mine_0 rfl rfl ?_
  refine v_iload_n 1 C dX11_mine_1 rfl rfl ?_
  refine v_callV (st := []) 2 C [.int x1] lm_X11_196 ly_X11_isPerson (hB 0 _ rfl) (by decide) dX11_mine_2 rfl (by decide) rfl (Nat.le_of_ble_eq_true rfl) (fun o1 h1 => m_X11_isPerson k hB x1 σ o1 h1) hf (fun v1 s2 hf => ?_)
  refine v_if_ne (tgt := 14) 5 C dX11_mine_5 (by decide) hf (fun hf => ?_) (fun hf => ?_)
  · refine v_iload_n 14 C dX11_mine_14 rfl rfl ?_
    refine v_iconst (v := 0) 15 C dX11_mine_15 (by decide) ?_
    refine v_iconst (v := 1) 16 C dX11_mine_16 (by decide) ?_
    refine v_callS (st := []) 17 C [.int x2, .int 0, .int 1] lm_X11_124 lz_X11_isIn dX11_mine_17 rfl (by decide) rfl (Nat.le_of_ble_eq_true rfl) (fun o1 h1 => m_X11_isIn   x2 0 1 s2 o1 h1) hf (fun v3 s4 hf => ?_)
    refine v_if_ne (tgt := 30) 20 C dX11_mine_20 (by decide) hf (fun hf => ?_) (fun hf => ?_)
    · refine v_iconst (v := 0) 30 C dX11_mine_30 (by decide) ?_
      refine v_istore_n (lv' := [(0, .ref (E.2.1 (k))), (1, .int x1), (2, .int x2), (3, .int 0)]) 31 C dX11_mine_31 rfl (by decide) rfl rfl ?_
      refine v_iconst (v := 0) 32 C dX11_mine_32 (by decide) ?_
      refine v_istore (lv' := [(0, .ref (E.2.1 (k))), (1, .int x1), (2, .int x2), (3, .int 0), (4, .int 0)]) 33 C dX11_mine_33 (by decide) rfl rfl ?_
      exact Vx.lv [0, 1, 2, 3, 4] rfl (k_X11_mine_b35 C k hB fu x1 x2 0 0 s4 hf)
    · refine v_aload_n 23 C dX11_mine_23 rfl rfl ?_
      refine v_bipush (v := (-2)) 24 C dX11_mine_24 (by decide) ?_
      refine v_callV (st := []) 26 C [.int (-2)] lm_X11_112 ly_X11_no (hB 0 _ rfl) (by decide) dX11_mine_26 rfl (by decide) rfl (Nat.le_of_ble_eq_true rfl) (fun o1 h1 => m_X11_no k hB (-2) s4 o1 h1) hf (fun v5 s6 hf => ?_)
      exact v_iret 29 C rfl dX11_mine_29 hf
  · refine v_aload_n 8 C dX11_mine_8 rfl rfl ?_
    refine v_iconst (v := (-1)) 9 C dX11_mine_9 (by decide) ?_
    refine v_callV (st := []) 10 C [.int (-1)] lm_X11_112 ly_X11_no (hB 0 _ rfl) (by decide) dX11_mine_10 rfl (by decide) rfl (Nat.le_of_ble_eq_true rfl) (fun o1 h1 => m_X11_no k hB (-1) s2 o1 h1) hf (fun v7 s8 hf => ?_)
    exact v_iret 13 C rfl dX11_mine_13 hf
theorem m_X11_mine {l : Launch} {E : En} {L : List Nat} (k : Nat) (hB : Bk L sh_AuntsPuzzleModel k) (x1 : Int32) (x2 : Int32) (σ : Sg) (o : Int32 × Sg) (hf : f_X11_mine k x1 x2 σ = some o) : Mi l yX11_mine cX11_mine 5 (some .int) (2) E L [.ref (E.2.1 (k)), .int x1, .int x2] σ o :=
  Mi.of RX11 rfl (by decide) (Nat.le_of_ble_eq_true rfl) (fun q hq C => by subst hq; exact k_X11_mine_b0 C k hB x1 x2 σ hf)
def f_X11_classed (k : Nat) (x1 : Int32) (x2 : Int32) (σ : Sg) : Rs := if x1 ≤ 0 then (some (-x2, σ)) else (some (x2, σ))
set_option maxRecDepth 100000 in
set_option maxHeartbeats 4000000 in
theorem k_X11_classed_b0 {q : Mc} {E : En} {L : List Nat} {o : Int32 × Sg} (C : Cx q E L cX11_classed 3 RX11 (some .int) (1)) (k : Nat) (hB : Bk L sh_AuntsPuzzleModel k) (x1 : Int32) (x2 : Int32) (σ : Sg) (hf : f_X11_classed k x1 x2 σ = some o) : Vx q E L 3 (some .int) o 0 [(0, .ref (E.2.1 (k))), (1, .int x1), (2, .int x2)] [] σ := by
  unfold f_X11_classed at hf
  refine v_iload_n 0 C dX11_classed_0 rfl rfl ?_
  refine v_if_le (tgt := 8) 1 C dX11_classed_1 (by decide) hf (fun hf => ?_) (fun hf => ?_)
  · refine v_iload_n 8 C dX11_classed_8 rfl rfl ?_
    refine v_ineg 9 C dX11_classed_9 ?_
    exact v_iret 10 C rfl dX11_classed_10 hf
  · refine v_iload_n 4 C dX11_classed_4 rfl rfl ?_
    refine v_goto (tgt := 10) 5 C dX11_classed_5 (by decide) ?_
    exact v_iret 10 C rfl dX11_classed_10 hf
theorem m_X11_classed {l : Launch} {E : En} {L : List Nat} (k : Nat) (hB : Bk L sh_AuntsPuzzleModel k) (x1 : Int32) (x2 : Int32) (σ : Sg) (o : Int32 × Sg) (hf : f_X11_classed k x1 x2 σ = some o) : Mi l yX11_classed cX11_classed 3 (some .int) (1) E L [.ref (E.2.1 (k)), .int x1, .int x2] σ o :=
  Mi.of RX11 rfl (by decide) (Nat.le_of_ble_eq_true rfl) (fun q hq C => by subst hq; exact k_X11_classed_b0 C k hB x1 x2 σ hf)
def f_X11_hardest_b154 (k : Nat) (r33 : Int32 → Int32 → Int32 → Sg → Rs) (x1 : Int32) (x2 : Int32) (x3 : Int32) (σ : Sg) : Rs := r33 x1 x2 (x3 + 1) σ
set_option maxRecDepth 100000 in
set_option maxHeartbeats 4000000 in
theorem k_X11_hardest_b154 {q : Mc} {E : En} {L : List Nat} {o : Int32 × Sg} (C : Cx q E L cX11_hardest 6 RX11 (some .int) (5)) (k : Nat) (hB : Bk L sh_AuntsPuzzleModel k) (r33 : Int32 → Int32 → Int32 → Sg → Rs) (hr33 : ∀ (x1 : Int32) (x2 : Int32) (x3 : Int32) (σ : Sg), r33 x1 x2 x3 σ = some o → Vx q E L 6 (some .int) o 33 [(0, .ref (E.2.1 (k))), (1, .int x1), (2, .int x2), (3, .int x3)] [] σ) (x1 : Int32) (x2 : Int32) (x3 : Int32) (σ : Sg) (hf : f_X11_hardest_b154 k r33 x1 x2 x3 σ = some o) : Vx q E L 6 (some .int) o 154 [(0, .ref (E.2.1 (k))), (1, .int x1), (2, .int x2), (3, .int x3)] [] σ := by
  unfold f_X11_hardest_b154 at hf
  refine v_iinc (v := x3 + 1) (lv' := [(0, .ref (E.2.1 (k))), (1, .int x1), (2, .int x2), (3, .int (x3 + 1))]) 154 C dX11_hardest_154 rfl (by rfl) (by decide) rfl rfl ?_
  refine v_goto (tgt := 33) 157 C dX11_hardest_157 (by decide) ?_
  exact Vx.lv [0, 1, 2, 3] rfl (hr33 x1 x2 (x3 + 1) σ hf)
def f_X11_hardest_b128 (k : Nat) (r33 : Int32 → Int32 → Int32 → Sg → Rs) (r45 : Int32 → Int32 → Int32 → Int32 → Int32 → Sg → Rs) (x1 : Int32) (x2 : Int32) (x3 : Int32) (x4 : Int32) (x5 : Int32) (σ : Sg) : Rs := r45 x1 x2 x3 x4 (x5 + 1) σ
set_option maxRecDepth 100000 in
set_option maxHeartbeats 4000000 in
theorem k_X11_hardest_b128 {q : Mc} {E : En} {L : List Nat} {o : Int32 × Sg} (C : Cx q E L cX11_hardest 6 RX11 (some .int) (5)) (k : Nat) (hB : Bk L sh_AuntsPuzzleModel k) (r33 : Int32 → Int32 → Int32 → Sg → Rs) (hr33 : ∀ (x1 : Int32) (x2 : Int32) (x3 : Int32) (σ : Sg), r33 x1 x2 x3 σ = some o → Vx q E L 6 (some .int) o 33 [(0, .ref (E.2.1 (k))), (1, .int x1), (2, .int x2), (3, .int x3)] [] σ) (r45 : Int32 → Int32 → Int32 → Int32 → Int32 → Sg → Rs) (hr45 : ∀ (x1 : Int32) (x2 : Int32) (x3 : Int32) (x4 : Int32) (x5 : Int32) (σ : Sg), r45 x1 x2 x3 x4 x5 σ = some o → Vx q E L 6 (some .int) o 45 [(0, .ref (E.2.1 (k))), (1, .int x1), (2, .int x2), (3, .int x3), (4, .int x4), (5, .int x5)] [] σ) (x1 : Int32) (x2 : Int32) (x3 : Int32) (x4 : Int32) (x5 : Int32) (σ : Sg) (hf : f_X11_hardest_b128 k r33 r45 x1 x2 x3 x4 x5 σ = some o) : Vx q E L 6 (some .int) o 128 [(0, .ref (E.2.1 (k))), (1, .int x1), (2, .int x2), (3, .int x3), (4, .int x4), (5, .int x5)] [] σ := by
  unfold f_X11_hardest_b128 at hf
  refine v_iinc (v := x5 + 1) (lv' := [(0, .ref (E.2.1 (k))), (1, .int x1), (2, .int x2), (3, .int x3), (4, .int x4), (5, .int (x5 + 1))]) 128 C dX11_hardest_128 rfl (by rfl) (by decide) rfl rfl ?_
  refine v_goto (tgt := 45) 131 C dX11_hardest_131 (by decide) ?_
  exact Vx.lv [0, 1, 2, 3, 4, 5] rfl (hr45 x1 x2 x3 x4 (x5 + 1) σ hf)
def f_X11_hardest_b91 (k : Nat) (r33 : Int32 → Int32 → Int32 → Sg → Rs) (r45 : Int32 → Int32 → Int32 → Int32 → Int32 → Sg → Rs) (x1 : Int32) (x2 : Int32) (x3 : Int32) (x4 : Int32) (x5 : Int32) (σ : Sg) : Rs := p_call (f_X11_beside k x5 2 σ) (fun v1 s2 => if v1 < 0 then (f_X11_hardest_b128 k r33 r45 x1 x2 x3 x4 x5 s2) else (p_rd s2 (k + 3) 16 x5 (fun v3 => p_nz x3 (p_call (f_X11_classed k v3 (1 + (x4 - x4 / x3 * x3)) s2) (fun v4 s5 => p_wr s5 (k + 3) 16 x5 v4 (fun s6 => f_X11_hardest_b128 k r33 r45 x1 x2 x3 (x4 + 1) x5 s6))))))
set_option maxRecDepth 100000 in
set_option maxHeartbeats 4000000 in
theorem k_X11_hardest_b91 {q : Mc} {E : En} {L : List Nat} {o : Int32 × Sg} (C : Cx q E L cX11_hardest 6 RX11 (some .int) (5)) (k : Nat) (hB : Bk L sh_AuntsPuzzleModel k) (r33 : Int32 → Int32 → Int32 → Sg → Rs) (hr33 : ∀ (x1 : Int32) (x2 : Int32) (x3 : Int32) (σ : Sg), r33 x1 x2 x3 σ = some o → Vx q E L 6 (some .int) o 33 [(0, .ref (E.2.1 (k))), (1, .int x1), (2, .int x2), (3, .int x3)] [] σ) (r45 : Int32 → Int32 → Int32 → Int32 → Int32 → Sg → Rs) (hr45 : ∀ (x1 : Int32) (x2 : Int32) (x3 : Int32) (x4 : Int32) (x5 : Int32) (σ : Sg), r45 x1 x2 x3 x4 x5 σ = some o → Vx q E L 6 (some .int) o 45 [(0, .ref (E.2.1 (k))), (1, .int x1), (2, .int x2), (3, .int x3), (4, .int x4), (5, .int x5)] [] σ) (x1 : Int32) (x2 : Int32) (x3 : Int32) (x4 : Int32) (x5 : Int32) (σ : Sg) (hf : f_X11_hardest_b91 k r33 r45 x1 x2 x3 x4 x5 σ = some o) : Vx q E L 6 (some .int) o 91 [(0, .ref (E.2.1 (k))), (1, .int x1), (2, .int x2), (3, .int x3), (4, .int x4), (5, .int x5)] [] σ := by
  unfold f_X11_hardest_b91 at hf
  refine v_aload_n 91 C dX11_hardest_91 rfl rfl ?_
  refine v_iload 92 C dX11_hardest_92 rfl ?_
  refine v_iconst (v := 2) 94 C dX11_hardest_94 (by decide) ?_
  refine v_callV (st := []) 95 C [.int x5, .int 2] lm_X11_98 ly_X11_beside (hB 0 _ rfl) (by decide) dX11_hardest_95 rfl (by decide) rfl (Nat.le_of_ble_eq_true rfl) (fun o1 h1 => m_X11_beside k hB x5 2 σ o1 h1) hf (fun v1 s2 hf => ?_)
  refine v_if_lt (tgt := 128) 98 C dX11_hardest_98 (by decide) hf (fun hf => ?_) (fun hf => ?_)
  · exact Vx.lv [0, 1, 2, 3, 4, 5] rfl (k_X11_hardest_b128 C k hB r33 hr33 r45 hr45 x1 x2 x3 x4 x5 s2 hf)
  · refine v_aload_n 101 C dX11_hardest_101 rfl rfl ?_
    refine v_getR 102 C lk_X11_16 (hB 0 _ rfl) (by decide) rfl dX11_hardest_102 ?_
    refine v_iload 105 C dX11_hardest_105 rfl ?_
    refine v_aload_n 107 C dX11_hardest_107 rfl rfl ?_
    refine v_aload_n 108 C dX11_hardest_108 rfl rfl ?_
    refine v_getR 109 C lk_X11_16 (hB 0 _ rfl) (by decide) rfl dX11_hardest_109 ?_
    refine v_iload 112 C dX11_hardest_112 rfl ?_
    refine v_iald 114 C (hB 3 _ rfl) dX11_hardest_114 hf (fun v3 hf => ?_)
    refine v_iconst (v := 1) 115 C dX11_hardest_115 (by decide) ?_
    refine v_iload 116 C dX11_hardest_116 rfl ?_
    refine v_iload_n 118 C dX11_hardest_118 rfl rfl ?_
    refine v_irem 119 C dX11_hardest_119 hf (fun hf => ?_)
    refine v_iadd 120 C dX11_hardest_120 ?_
    refine v_callV (st := [.int x5, .ref (E.2.1 (k + 3))]) 121 C [.int v3, .int (1 + (x4 - x4 / x3 * x3))] lm_X11_285 ly_X11_classed (hB 0 _ rfl) (by decide) dX11_hardest_121 rfl (by decide) rfl (Nat.le_of_ble_eq_true rfl) (fun o1 h1 => m_X11_classed k hB v3 (1 + (x4 - x4 / x3 * x3)) s2 o1 h1) hf (fun v4 s5 hf => ?_)
    refine v_iast 124 C (hB 3 _ rfl) dX11_hardest_124 hf (fun s6 hf => ?_)
    refine v_iinc (v := x4 + 1) (lv' := [(0, .ref (E.2.1 (k))), (1, .int x1), (2, .int x2), (3, .int x3), (4, .int (x4 + 1)), (5, .int x5)]) 125 C dX11_hardest_125 rfl (by rfl) (by decide) rfl rfl ?_
    exact Vx.lv [0, 1, 2, 3, 4, 5] rfl (k_X11_hardest_b128 C k hB r33 hr33 r45 hr45 x1 x2 x3 (x4 + 1) x5 s6 hf)
def f_X11_hardest_b45 (k : Nat) (r33 : Int32 → Int32 → Int32 → Sg → Rs) : Nat → Int32 → Int32 → Int32 → Int32 → Int32 → Sg → Rs
  | 0, _, _, _, _, _, _ => none
  | n + 1, x1, x2, x3, x4, x5, σ => p_call (f_X11_cells k σ) (fun v1 s2 => if v1 ≤ x5 then (p_call (f_X11_seemsOf k s2) (fun v3 s4 => if x2 < v3 then (f_X11_hardest_b154 k r33 x3 v3 x3 s4) else (f_X11_hardest_b154 k r33 x1 x2 x3 s4))) else (p_call (f_X11_beside k x5 1 s2) (fun v5 s6 => if v5 < 0 then (f_X11_hardest_b91 k r33 (f_X11_hardest_b45 k r33 n) x1 x2 x3 x4 x5 s6) else (p_rd s6 (k + 2) 16 x5 (fun v7 => p_nz x3 (p_call (f_X11_classed k v7 (1 + (x4 - x4 / x3 * x3)) s6) (fun v8 s9 => p_wr s9 (k + 2) 16 x5 v8 (fun s10 => f_X11_hardest_b91 k r33 (f_X11_hardest_b45 k r33 n) x1 x2 x3 (x4 + 1) x5 s10))))))))
set_option maxRecDepth 100000 in
set_option maxHeartbeats 4000000 in
theorem k_X11_hardest_b45 {q : Mc} {E : En} {L : List Nat} {o : Int32 × Sg} (C : Cx q E L cX11_hardest 6 RX11 (some .int) (5)) (k : Nat) (hB : Bk L sh_AuntsPuzzleModel k) (r33 : Int32 → Int32 → Int32 → Sg → Rs) (hr33 : ∀ (x1 : Int32) (x2 : Int32) (x3 : Int32) (σ : Sg), r33 x1 x2 x3 σ = some o → Vx q E L 6 (some .int) o 33 [(0, .ref (E.2.1 (k))), (1, .int x1), (2, .int x2), (3, .int x3)] [] σ) (n : Nat) : ∀ (x1 : Int32) (x2 : Int32) (x3 : Int32) (x4 : Int32) (x5 : Int32) (σ : Sg), f_X11_hardest_b45 k r33 n x1 x2 x3 x4 x5 σ = some o → Vx q E L 6 (some .int) o 45 [(0, .ref (E.2.1 (k))), (1, .int x1), (2, .int x2), (3, .int x3), (4, .int x4), (5, .int x5)] [] σ := by
  induction n with
  | zero => intro x1 x2 x3 x4 x5 σ hf; cases (show (none : Rs) = some o from hf)
  | succ n ih =>
    intro x1 x2 x3 x4 x5 σ hf
    rw [f_X11_hardest_b45] at hf
    refine v_iload 45 C dX11_hardest_45 rfl ?_
    refine v_aload_n 47 C dX11_hardest_47 rfl rfl ?_
    refine v_callV (st := [.int x5]) 48 C [] lm_X11_91 ly_X11_cells (hB 0 _ rfl) (by decide) dX11_hardest_48 rfl (by decide) rfl (Nat.le_of_ble_eq_true rfl) (fun o1 h1 => m_X11_cells k hB  σ o1 h1) hf (fun v1 s2 hf => ?_)
    refine v_icmp_ge (tgt := 134) 51 C dX11_hardest_51 (by decide) hf (fun hf => ?_) (fun hf => ?_)
    · refine v_aload_n 134 C dX11_hardest_134 rfl rfl ?_
      refine v_callV (st := []) 135 C [] lm_X11_264 ly_X11_seemsOf (hB 0 _ rfl) (by decide) dX11_hardest_135 rfl (by decide) rfl (Nat.le_of_ble_eq_true rfl) (fun o1 h1 => m_X11_seemsOf k hB  s2 o1 h1) hf (fun v3 s4 hf => ?_)
      refine v_istore (lv' := [(0, .ref (E.2.1 (k))), (1, .int x1), (2, .int x2), (3, .int x3), (4, .int x4), (5, .int v3)]) 138 C dX11_hardest_138 (by decide) rfl rfl ?_
      refine v_iload 140 C dX11_hardest_140 rfl ?_
      refine v_iload_n 142 C dX11_hardest_142 rfl rfl ?_
      refine v_icmp_gt (tgt := 149) 143 C dX11_hardest_143 (by decide) hf (fun hf => ?_) (fun hf => ?_)
      · refine v_iload 149 C dX11_hardest_149 rfl ?_
        refine v_istore_n (lv' := [(0, .ref (E.2.1 (k))), (1, .int x1), (2, .int v3), (3, .int x3), (4, .int x4), (5, .int v3)]) 151 C dX11_hardest_151 rfl (by decide) rfl rfl ?_
        refine v_iload_n 152 C dX11_hardest_152 rfl rfl ?_
        refine v_istore_n (lv' := [(0, .ref (E.2.1 (k))), (1, .int x3), (2, .int v3), (3, .int x3), (4, .int x4), (5, .int v3)]) 153 C dX11_hardest_153 rfl (by decide) rfl rfl ?_
        exact Vx.lv [0, 1, 2, 3] rfl (k_X11_hardest_b154 C k hB r33 hr33 x3 v3 x3 s4 hf)
      · refine v_goto (tgt := 154) 146 C dX11_hardest_146 (by decide) ?_
        exact Vx.lv [0, 1, 2, 3] rfl (k_X11_hardest_b154 C k hB r33 hr33 x1 x2 x3 s4 hf)
    · refine v_aload_n 54 C dX11_hardest_54 rfl rfl ?_
      refine v_iload 55 C dX11_hardest_55 rfl ?_
      refine v_iconst (v := 1) 57 C dX11_hardest_57 (by decide) ?_
      refine v_callV (st := []) 58 C [.int x5, .int 1] lm_X11_98 ly_X11_beside (hB 0 _ rfl) (by decide) dX11_hardest_58 rfl (by decide) rfl (Nat.le_of_ble_eq_true rfl) (fun o1 h1 => m_X11_beside k hB x5 1 s2 o1 h1) hf (fun v5 s6 hf => ?_)
      refine v_if_lt (tgt := 91) 61 C dX11_hardest_61 (by decide) hf (fun hf => ?_) (fun hf => ?_)
      · exact Vx.lv [0, 1, 2, 3, 4, 5] rfl (k_X11_hardest_b91 C k hB r33 hr33 (f_X11_hardest_b45 k r33 n) ih x1 x2 x3 x4 x5 s6 hf)
      · refine v_aload_n 64 C dX11_hardest_64 rfl rfl ?_
        refine v_getR 65 C lk_X11_13 (hB 0 _ rfl) (by decide) rfl dX11_hardest_65 ?_
        refine v_iload 68 C dX11_hardest_68 rfl ?_
        refine v_aload_n 70 C dX11_hardest_70 rfl rfl ?_
        refine v_aload_n 71 C dX11_hardest_71 rfl rfl ?_
        refine v_getR 72 C lk_X11_13 (hB 0 _ rfl) (by decide) rfl dX11_hardest_72 ?_
        refine v_iload 75 C dX11_hardest_75 rfl ?_
        refine v_iald 77 C (hB 2 _ rfl) dX11_hardest_77 hf (fun v7 hf => ?_)
        refine v_iconst (v := 1) 78 C dX11_hardest_78 (by decide) ?_
        refine v_iload 79 C dX11_hardest_79 rfl ?_
        refine v_iload_n 81 C dX11_hardest_81 rfl rfl ?_
        refine v_irem 82 C dX11_hardest_82 hf (fun hf => ?_)
        refine v_iadd 83 C dX11_hardest_83 ?_
        refine v_callV (st := [.int x5, .ref (E.2.1 (k + 2))]) 84 C [.int v7, .int (1 + (x4 - x4 / x3 * x3))] lm_X11_285 ly_X11_classed (hB 0 _ rfl) (by decide) dX11_hardest_84 rfl (by decide) rfl (Nat.le_of_ble_eq_true rfl) (fun o1 h1 => m_X11_classed k hB v7 (1 + (x4 - x4 / x3 * x3)) s6 o1 h1) hf (fun v8 s9 hf => ?_)
        refine v_iast 87 C (hB 2 _ rfl) dX11_hardest_87 hf (fun s10 hf => ?_)
        refine v_iinc (v := x4 + 1) (lv' := [(0, .ref (E.2.1 (k))), (1, .int x1), (2, .int x2), (3, .int x3), (4, .int (x4 + 1)), (5, .int x5)]) 88 C dX11_hardest_88 rfl (by rfl) (by decide) rfl rfl ?_
        exact Vx.lv [0, 1, 2, 3, 4, 5] rfl (k_X11_hardest_b91 C k hB r33 hr33 (f_X11_hardest_b45 k r33 n) ih x1 x2 x3 (x4 + 1) x5 s10 hf)
def f_X11_hardest_b33 (k : Nat)  : Nat → Int32 → Int32 → Int32 → Sg → Rs
  | 0, _, _, _, _ => none
  | n + 1, x1, x2, x3, σ => if 7 ≤ x3 then (p_call (f_X11_passesAll k 1 0 σ) (fun v1 s2 => some (x1, s2))) else (f_X11_hardest_b45 k (f_X11_hardest_b33 k n) fu x1 x2 x3 0 0 σ)
set_option maxRecDepth 100000 in
set_option maxHeartbeats 4000000 in
theorem k_X11_hardest_b33 {q : Mc} {E : En} {L : List Nat} {o : Int32 × Sg} (C : Cx q E L cX11_hardest 6 RX11 (some .int) (5)) (k : Nat) (hB : Bk L sh_AuntsPuzzleModel k) (n : Nat) : ∀ (x1 : Int32) (x2 : Int32) (x3 : Int32) (σ : Sg), f_X11_hardest_b33 k n x1 x2 x3 σ = some o → Vx q E L 6 (some .int) o 33 [(0, .ref (E.2.1 (k))), (1, .int x1), (2, .int x2), (3, .int x3)] [] σ := by
  induction n with
  | zero => intro x1 x2 x3 σ hf; cases (show (none : Rs) = some o from hf)
  | succ n ih =>
    intro x1 x2 x3 σ hf
    rw [f_X11_hardest_b33] at hf
    refine v_iload_n 33 C dX11_hardest_33 rfl rfl ?_
    refine v_bipush (v := 7) 34 C dX11_hardest_34 (by decide) ?_
    refine v_icmp_ge (tgt := 160) 36 C dX11_hardest_36 (by decide) hf (fun hf => ?_) (fun hf => ?_)
    · refine v_aload_n 160 C dX11_hardest_160 rfl rfl ?_
      refine v_iconst (v := 1) 161 C dX11_hardest_161 (by decide) ?_
      refine v_iconst (v := 0) 162 C dX11_hardest_162 (by decide) ?_
      refine v_callV (st := []) 163 C [.int 1, .int 0] lm_X11_151 ly_X11_passesAll (hB 0 _ rfl) (by decide) dX11_hardest_163 rfl (by decide) rfl (Nat.le_of_ble_eq_true rfl) (fun o1 h1 => m_X11_passesAll k hB 1 0 σ o1 h1) hf (fun v1 s2 hf => ?_)
      refine v_iload_n 166 C dX11_hardest_166 rfl rfl ?_
      exact v_iret 167 C rfl dX11_hardest_167 hf
    · refine v_iconst (v := 0) 39 C dX11_hardest_39 (by decide) ?_
      refine v_istore (lv' := [(0, .ref (E.2.1 (k))), (1, .int x1), (2, .int x2), (3, .int x3), (4, .int 0)]) 40 C dX11_hardest_40 (by decide) rfl rfl ?_
      refine v_iconst (v := 0) 42 C dX11_hardest_42 (by decide) ?_
      refine v_istore (lv' := [(0, .ref (E.2.1 (k))), (1, .int x1), (2, .int x2), (3, .int x3), (4, .int 0), (5, .int 0)]) 43 C dX11_hardest_43 (by decide) rfl rfl ?_
      exact Vx.lv [0, 1, 2, 3, 4, 5] rfl (k_X11_hardest_b45 C k hB (f_X11_hardest_b33 k n) ih fu x1 x2 x3 0 0 σ hf)
def f_X11_hardest_b8 (k : Nat)  : Nat → Int32 → Sg → Rs
  | 0, _, _ => none
  | n + 1, x1, σ => if 16 ≤ x1 then (f_X11_hardest_b33 k fu 0 (-1) 1 σ) else (p_wr σ (k + 8) 16 x1 0 (fun s1 => f_X11_hardest_b8 k n (x1 + 1) s1))
set_option maxRecDepth 100000 in
set_option maxHeartbeats 4000000 in
theorem k_X11_hardest_b8 {q : Mc} {E : En} {L : List Nat} {o : Int32 × Sg} (C : Cx q E L cX11_hardest 6 RX11 (some .int) (5)) (k : Nat) (hB : Bk L sh_AuntsPuzzleModel k) (n : Nat) : ∀ (x1 : Int32) (σ : Sg), f_X11_hardest_b8 k n x1 σ = some o → Vx q E L 6 (some .int) o 8 [(0, .ref (E.2.1 (k))), (1, .int x1)] [] σ := by
  induction n with
  | zero => intro x1 σ hf; cases (show (none : Rs) = some o from hf)
  | succ n ih =>
    intro x1 σ hf
    rw [f_X11_hardest_b8] at hf
    refine v_iload_n 8 C dX11_hardest_8 rfl rfl ?_
    refine v_bipush (v := 16) 9 C dX11_hardest_9 (by decide) ?_
    refine v_icmp_ge (tgt := 27) 11 C dX11_hardest_11 (by decide) hf (fun hf => ?_) (fun hf => ?_)
    · refine v_iconst (v := 0) 27 C dX11_hardest_27 (by decide) ?_
      refine v_istore_n (lv' := [(0, .ref (E.2.1 (k))), (1, .int 0)]) 28 C dX11_hardest_28 rfl (by decide) rfl rfl ?_
      refine v_iconst (v := (-1)) 29 C dX11_hardest_29 (by decide) ?_
      refine v_istore_n (lv' := [(0, .ref (E.2.1 (k))), (1, .int 0), (2, .int (-1))]) 30 C dX11_hardest_30 rfl (by decide) rfl rfl ?_
      refine v_iconst (v := 1) 31 C dX11_hardest_31 (by decide) ?_
      refine v_istore_n (lv' := [(0, .ref (E.2.1 (k))), (1, .int 0), (2, .int (-1)), (3, .int 1)]) 32 C dX11_hardest_32 rfl (by decide) rfl rfl ?_
      exact Vx.lv [0, 1, 2, 3] rfl (k_X11_hardest_b33 C k hB fu 0 (-1) 1 σ hf)
    · refine v_aload_n 14 C dX11_hardest_14 rfl rfl ?_
      refine v_getR 15 C lk_X11_31 (hB 0 _ rfl) (by decide) rfl dX11_hardest_15 ?_
      refine v_iload_n 18 C dX11_hardest_18 rfl rfl ?_
      refine v_iconst (v := 0) 19 C dX11_hardest_19 (by decide) ?_
      refine v_iast 20 C (hB 8 _ rfl) dX11_hardest_20 hf (fun s1 hf => ?_)
      refine v_iinc (v := x1 + 1) (lv' := [(0, .ref (E.2.1 (k))), (1, .int (x1 + 1))]) 21 C dX11_hardest_21 rfl (by rfl) (by decide) rfl rfl ?_
      refine v_goto (tgt := 8) 24 C dX11_hardest_24 (by decide) ?_
      exact Vx.lv [0, 1] rfl (ih (x1 + 1) s1 hf)
def f_X11_hardest (k : Nat) (σ : Sg) : Rs := p_call (f_X11_passesAll k 1 1 σ) (fun v1 s2 => f_X11_hardest_b8 k fu 0 s2)
set_option maxRecDepth 100000 in
set_option maxHeartbeats 4000000 in
theorem k_X11_hardest_b0 {q : Mc} {E : En} {L : List Nat} {o : Int32 × Sg} (C : Cx q E L cX11_hardest 6 RX11 (some .int) (5)) (k : Nat) (hB : Bk L sh_AuntsPuzzleModel k) (σ : Sg) (hf : f_X11_hardest k σ = some o) : Vx q E L 6 (some .int) o 0 [(0, .ref (E.2.1 (k)))] [] σ := by
  unfold f_X11_hardest at hf
  refine v_aload_n 0 C dX11_hardest_0 rfl rfl ?_
  refine v_iconst (v := 1) 1 C dX11_hardest_1 (by decide) ?_
  refine v_iconst (v := 1) 2 C dX11_hardest_2 (by decide) ?_
  refine v_callV (st := []) 3 C [.int 1, .int 1] lm_X11_151 ly_X11_passesAll (hB 0 _ rfl) (by decide) dX11_hardest_3 rfl (by decide) rfl (Nat.le_of_ble_eq_true rfl) (fun o1 h1 => m_X11_passesAll k hB 1 1 σ o1 h1) hf (fun v1 s2 hf => ?_)
  refine v_iconst (v := 0) 6 C dX11_hardest_6 (by decide) ?_
  refine v_istore_n (lv' := [(0, .ref (E.2.1 (k))), (1, .int 0)]) 7 C dX11_hardest_7 rfl (by decide) rfl rfl ?_
  exact Vx.lv [0, 1] rfl (k_X11_hardest_b8 C k hB fu 0 s2 hf)
theorem m_X11_hardest {l : Launch} {E : En} {L : List Nat} (k : Nat) (hB : Bk L sh_AuntsPuzzleModel k) (σ : Sg) (o : Int32 × Sg) (hf : f_X11_hardest k σ = some o) : Mi l yX11_hardest cX11_hardest 6 (some .int) (5) E L [.ref (E.2.1 (k))] σ o :=
  Mi.of RX11 rfl (by decide) (Nat.le_of_ble_eq_true rfl) (fun q hq C => by subst hq; exact k_X11_hardest_b0 C k hB  σ hf)
def f_X11_keeper_b33 (k : Nat) (x1 : Int32) (x2 : Int32) (t0 : Int32) (σ : Sg) : Rs := if t0 = 0 then (p_nz (x2 + 1) (if (x1 - x1 / (x2 + 1) * (x2 + 1)) = 0 then (some (0, σ)) else (some (1, σ)))) else (p_call (f_X11_no k t0 σ) (fun v1 s2 => some (v1, s2)))
set_option maxRecDepth 100000 in
set_option maxHeartbeats 4000000 in
theorem k_X11_keeper_b33 {q : Mc} {E : En} {L : List Nat} {o : Int32 × Sg} (C : Cx q E L cX11_keeper 4 RX11 (some .int) (2)) (k : Nat) (hB : Bk L sh_AuntsPuzzleModel k) (x1 : Int32) (x2 : Int32) (t0 : Int32) (σ : Sg) (hf : f_X11_keeper_b33 k x1 x2 t0 σ = some o) : Vx q E L 4 (some .int) o 33 [(0, .ref (E.2.1 (k))), (1, .int x1), (2, .int x2)] [.int t0] σ := by
  unfold f_X11_keeper_b33 at hf
  refine v_istore_n (lv' := [(0, .ref (E.2.1 (k))), (1, .int x1), (2, .int x2), (3, .int t0)]) 33 C dX11_keeper_33 rfl (by decide) rfl rfl ?_
  refine v_iload_n 34 C dX11_keeper_34 rfl rfl ?_
  refine v_if_eq (tgt := 44) 35 C dX11_keeper_35 (by decide) hf (fun hf => ?_) (fun hf => ?_)
  · refine v_iload_n 44 C dX11_keeper_44 rfl rfl ?_
    refine v_iload_n 45 C dX11_keeper_45 rfl rfl ?_
    refine v_iconst (v := 1) 46 C dX11_keeper_46 (by decide) ?_
    refine v_iadd 47 C dX11_keeper_47 ?_
    refine v_irem 48 C dX11_keeper_48 hf (fun hf => ?_)
    refine v_if_eq (tgt := 56) 49 C dX11_keeper_49 (by decide) hf (fun hf => ?_) (fun hf => ?_)
    · refine v_iconst (v := 0) 56 C dX11_keeper_56 (by decide) ?_
      exact v_iret 57 C rfl dX11_keeper_57 hf
    · refine v_iconst (v := 1) 52 C dX11_keeper_52 (by decide) ?_
      refine v_goto (tgt := 57) 53 C dX11_keeper_53 (by decide) ?_
      exact v_iret 57 C rfl dX11_keeper_57 hf
  · refine v_aload_n 38 C dX11_keeper_38 rfl rfl ?_
    refine v_iload_n 39 C dX11_keeper_39 rfl rfl ?_
    refine v_callV (st := []) 40 C [.int t0] lm_X11_112 ly_X11_no (hB 0 _ rfl) (by decide) dX11_keeper_40 rfl (by decide) rfl (Nat.le_of_ble_eq_true rfl) (fun o1 h1 => m_X11_no k hB t0 σ o1 h1) hf (fun v1 s2 hf => ?_)
    exact v_iret 43 C rfl dX11_keeper_43 hf
def f_X11_keeper_b9 (k : Nat) (x1 : Int32) (x2 : Int32) (σ : Sg) : Rs := f_X11_keeper_b33 k x1 x2 (-4) σ
set_option maxRecDepth 100000 in
set_option maxHeartbeats 4000000 in
theorem k_X11_keeper_b9 {q : Mc} {E : En} {L : List Nat} {o : Int32 × Sg} (C : Cx q E L cX11_keeper 4 RX11 (some .int) (2)) (k : Nat) (hB : Bk L sh_AuntsPuzzleModel k) (x1 : Int32) (x2 : Int32) (σ : Sg) (hf : f_X11_keeper_b9 k x1 x2 σ = some o) : Vx q E L 4 (some .int) o 9 [(0, .ref (E.2.1 (k))), (1, .int x1), (2, .int x2)] [] σ := by
  unfold f_X11_keeper_b9 at hf
  refine v_bipush (v := (-4)) 9 C dX11_keeper_9 (by decide) ?_
  refine v_goto (tgt := 33) 11 C dX11_keeper_11 (by decide) ?_
  exact Vx.lv [0, 1, 2] rfl (k_X11_keeper_b33 C k hB x1 x2 (-4) σ hf)
def f_X11_keeper_b27 (k : Nat) (x1 : Int32) (x2 : Int32) (σ : Sg) : Rs := f_X11_keeper_b33 k x1 x2 (-6) σ
set_option maxRecDepth 100000 in
set_option maxHeartbeats 4000000 in
theorem k_X11_keeper_b27 {q : Mc} {E : En} {L : List Nat} {o : Int32 × Sg} (C : Cx q E L cX11_keeper 4 RX11 (some .int) (2)) (k : Nat) (hB : Bk L sh_AuntsPuzzleModel k) (x1 : Int32) (x2 : Int32) (σ : Sg) (hf : f_X11_keeper_b27 k x1 x2 σ = some o) : Vx q E L 4 (some .int) o 27 [(0, .ref (E.2.1 (k))), (1, .int x1), (2, .int x2)] [] σ := by
  unfold f_X11_keeper_b27 at hf
  refine v_bipush (v := (-6)) 27 C dX11_keeper_27 (by decide) ?_
  refine v_goto (tgt := 33) 29 C dX11_keeper_29 (by decide) ?_
  exact Vx.lv [0, 1, 2] rfl (k_X11_keeper_b33 C k hB x1 x2 (-6) σ hf)
def f_X11_keeper (k : Nat) (x1 : Int32) (x2 : Int32) (σ : Sg) : Rs := if x1 < 0 then (f_X11_keeper_b9 k x1 x2 σ) else (if 1 ≤ x2 then (if 999 < x1 then (f_X11_keeper_b27 k x1 x2 σ) else (if x2 ≤ 99 then (f_X11_keeper_b33 k x1 x2 0 σ) else (f_X11_keeper_b27 k x1 x2 σ))) else (f_X11_keeper_b9 k x1 x2 σ))
set_option maxRecDepth 100000 in
set_option maxHeartbeats 4000000 in
theorem k_X11_keeper_b0 {q : Mc} {E : En} {L : List Nat} {o : Int32 × Sg} (C : Cx q E L cX11_keeper 4 RX11 (some .int) (2)) (k : Nat) (hB : Bk L sh_AuntsPuzzleModel k) (x1 : Int32) (x2 : Int32) (σ : Sg) (hf : f_X11_keeper k x1 x2 σ = some o) : Vx q E L 4 (some .int) o 0 [(0, .ref (E.2.1 (k))), (1, .int x1), (2, .int x2)] [] σ := by
  unfold f_X11_keeper at hf
  refine v_iload_n 0 C dX11_keeper_0 rfl rfl ?_
  refine v_if_lt (tgt := 9) 1 C dX11_keeper_1 (by decide) hf (fun hf => ?_) (fun hf => ?_)
  · exact Vx.lv [0, 1, 2] rfl (k_X11_keeper_b9 C k hB x1 x2 σ hf)
  · refine v_iload_n 4 C dX11_keeper_4 rfl rfl ?_
    refine v_iconst (v := 1) 5 C dX11_keeper_5 (by decide) ?_
    refine v_icmp_ge (tgt := 14) 6 C dX11_keeper_6 (by decide) hf (fun hf => ?_) (fun hf => ?_)
    · refine v_iload_n 14 C dX11_keeper_14 rfl rfl ?_
      refine v_sipush (v := 999) 15 C dX11_keeper_15 (by decide) ?_
      refine v_icmp_gt (tgt := 27) 18 C dX11_keeper_18 (by decide) hf (fun hf => ?_) (fun hf => ?_)
      · exact Vx.lv [0, 1, 2] rfl (k_X11_keeper_b27 C k hB x1 x2 σ hf)
      · refine v_iload_n 21 C dX11_keeper_21 rfl rfl ?_
        refine v_bipush (v := 99) 22 C dX11_keeper_22 (by decide) ?_
        refine v_icmp_le (tgt := 32) 24 C dX11_keeper_24 (by decide) hf (fun hf => ?_) (fun hf => ?_)
        · refine v_iconst (v := 0) 32 C dX11_keeper_32 (by decide) ?_
          exact Vx.lv [0, 1, 2] rfl (k_X11_keeper_b33 C k hB x1 x2 0 σ hf)
        · exact Vx.lv [0, 1, 2] rfl (k_X11_keeper_b27 C k hB x1 x2 σ hf)
    · exact Vx.lv [0, 1, 2] rfl (k_X11_keeper_b9 C k hB x1 x2 σ hf)
theorem m_X11_keeper {l : Launch} {E : En} {L : List Nat} (k : Nat) (hB : Bk L sh_AuntsPuzzleModel k) (x1 : Int32) (x2 : Int32) (σ : Sg) (o : Int32 × Sg) (hf : f_X11_keeper k x1 x2 σ = some o) : Mi l yX11_keeper cX11_keeper 4 (some .int) (2) E L [.ref (E.2.1 (k)), .int x1, .int x2] σ o :=
  Mi.of RX11 rfl (by decide) (Nat.le_of_ble_eq_true rfl) (fun q hq C => by subst hq; exact k_X11_keeper_b0 C k hB x1 x2 σ hf)
def f_X11_draw (k : Nat) (x1 : Int32) (σ : Sg) : Rs := p_put σ (k) 37 (((σ (k) 37) * 1664525) + 1013904223) (fun s1 => p_nz x1 (some ((((s1 (k) 37) &&& 2147483647) / 256) - (((s1 (k) 37) &&& 2147483647) / 256) / x1 * x1, s1)))
set_option maxRecDepth 100000 in
set_option maxHeartbeats 4000000 in
theorem k_X11_draw_b0 {q : Mc} {E : En} {L : List Nat} {o : Int32 × Sg} (C : Cx q E L cX11_draw 2 RX11 (some .int) (1)) (k : Nat) (hB : Bk L sh_AuntsPuzzleModel k) (x1 : Int32) (σ : Sg) (hf : f_X11_draw k x1 σ = some o) : Vx q E L 2 (some .int) o 0 [(0, .ref (E.2.1 (k))), (1, .int x1)] [] σ := by
  unfold f_X11_draw at hf
  refine v_aload_n 0 C dX11_draw_0 rfl rfl ?_
  refine v_aload_n 1 C dX11_draw_1 rfl rfl ?_
  refine v_getI (dum := 0) 2 C lk_X11_288 (hB 0 _ rfl) (by decide) rfl dX11_draw_2 ?_
  refine v_ldcw 5 C co_X11_291 dX11_draw_5 ?_
  refine v_imul 8 C dX11_draw_8 ?_
  refine v_ldcw 9 C co_X11_292 dX11_draw_9 ?_
  refine v_iadd 12 C dX11_draw_12 ?_
  refine v_putI 13 C lp_X11_288 (hB 0 _ rfl) (by decide) rfl dX11_draw_13 hf (fun s1 hf => ?_)
  refine v_aload_n 16 C dX11_draw_16 rfl rfl ?_
  refine v_getI (dum := 0) 17 C lk_X11_288 (hB 0 _ rfl) (by decide) rfl dX11_draw_17 ?_
  refine v_ldcw 20 C co_X11_293 dX11_draw_20 ?_
  refine v_iand 23 C dX11_draw_23 ?_
  refine v_sipush (v := 256) 24 C dX11_draw_24 (by decide) ?_
  refine v_idiv_c 27 C dX11_draw_27 (by decide) ?_
  refine v_iload_n 28 C dX11_draw_28 rfl rfl ?_
  refine v_irem 29 C dX11_draw_29 hf (fun hf => ?_)
  exact v_iret 30 C rfl dX11_draw_30 hf
theorem m_X11_draw {l : Launch} {E : En} {L : List Nat} (k : Nat) (hB : Bk L sh_AuntsPuzzleModel k) (x1 : Int32) (σ : Sg) (o : Int32 × Sg) (hf : f_X11_draw k x1 σ = some o) : Mi l yX11_draw cX11_draw 2 (some .int) (1) E L [.ref (E.2.1 (k)), .int x1] σ o :=
  Mi.of RX11 rfl (by decide) (Nat.le_of_ble_eq_true rfl) (fun q hq C => by subst hq; exact k_X11_draw_b0 C k hB x1 σ hf)
def f_X11_evening_b138 (k : Nat) (r53 : Int32 → Int32 → Int32 → Sg → Rs) (x1 : Int32) (x4 : Int32) (x5 : Int32) (σ : Sg) : Rs := r53 x1 x4 (x5 + 1) σ
set_option maxRecDepth 100000 in
set_option maxHeartbeats 4000000 in
theorem k_X11_evening_b138 {q : Mc} {E : En} {L : List Nat} {o : Int32 × Sg} (C : Cx q E L cX11_evening 10 RX11 (some .int) (10)) (k : Nat) (hB : Bk L sh_AuntsPuzzleModel k) (r53 : Int32 → Int32 → Int32 → Sg → Rs) (hr53 : ∀ (x1 : Int32) (x4 : Int32) (x5 : Int32) (σ : Sg), r53 x1 x4 x5 σ = some o → Vx q E L 10 (some .int) o 53 [(0, .ref (E.2.1 (k))), (1, .int x1), (4, .int x4), (5, .int x5)] [] σ) (x1 : Int32) (x4 : Int32) (x5 : Int32) (σ : Sg) (hf : f_X11_evening_b138 k r53 x1 x4 x5 σ = some o) : Vx q E L 10 (some .int) o 138 [(0, .ref (E.2.1 (k))), (1, .int x1), (4, .int x4), (5, .int x5)] [] σ := by
  unfold f_X11_evening_b138 at hf
  refine v_iinc (v := x5 + 1) (lv' := [(0, .ref (E.2.1 (k))), (1, .int x1), (4, .int x4), (5, .int (x5 + 1))]) 138 C dX11_evening_138 rfl (by rfl) (by decide) rfl rfl ?_
  refine v_goto (tgt := 53) 141 C dX11_evening_141 (by decide) ?_
  exact Vx.lv [0, 1, 2, 3] rfl (hr53 x1 x4 (x5 + 1) σ hf)
def f_X11_evening_b53 (k : Nat)  : Nat → Int32 → Int32 → Int32 → Sg → Rs
  | 0, _, _, _, _ => none
  | n + 1, x1, x4, x5, σ => if x1 ≤ x5 then (p_call (f_X11_laidMany k σ) (fun v1 s2 => p_call (f_X11_passesAll k 1 0 s2) (fun v3 s4 => some (v1 - x4, s4)))) else (p_call (f_X11_draw k (σ (k) 13) σ) (fun v5 s6 => p_call (f_X11_cells k s6) (fun v7 s8 => p_call (f_X11_draw k v7 s8) (fun v9 s10 => p_call (f_X11_draw k 4 s10) (fun v11 s12 => p_call (f_X11_cells k s12) (fun v13 s14 => p_call (f_X11_draw k v13 s14) (fun v15 s16 => p_rd s16 (k + 5) 16 v15 (fun v17 => if 0 ≤ v17 then (f_X11_evening_b138 k (f_X11_evening_b53 k n) x1 x4 x5 s16) else (p_call (f_X11_isLaid k v9 s16) (fun v18 s19 => if v18 = 0 then (p_rd s19 (k + 8) 16 v9 (fun v20 => if v20 = 0 then (p_call (f_X11_tries k v5 v9 v11 v15 s19) (fun v21 s22 => f_X11_evening_b138 k (f_X11_evening_b53 k n) x1 x4 x5 s22)) else (f_X11_evening_b138 k (f_X11_evening_b53 k n) x1 x4 x5 s19))) else (f_X11_evening_b138 k (f_X11_evening_b53 k n) x1 x4 x5 s19)))))))))))
set_option maxRecDepth 100000 in
set_option maxHeartbeats 4000000 in
theorem k_X11_evening_b53 {q : Mc} {E : En} {L : List Nat} {o : Int32 × Sg} (C : Cx q E L cX11_evening 10 RX11 (some .int) (10)) (k : Nat) (hB : Bk L sh_AuntsPuzzleModel k) (n : Nat) : ∀ (x1 : Int32) (x4 : Int32) (x5 : Int32) (σ : Sg), f_X11_evening_b53 k n x1 x4 x5 σ = some o → Vx q E L 10 (some .int) o 53 [(0, .ref (E.2.1 (k))), (1, .int x1), (4, .int x4), (5, .int x5)] [] σ := by
  induction n with
  | zero => intro x1 x4 x5 σ hf; cases (show (none : Rs) = some o from hf)
  | succ n ih =>
    intro x1 x4 x5 σ hf
    rw [f_X11_evening_b53] at hf
    refine v_iload 53 C dX11_evening_53 rfl ?_
    refine v_iload_n 55 C dX11_evening_55 rfl rfl ?_
    refine v_icmp_ge (tgt := 144) 56 C dX11_evening_56 (by decide) hf (fun hf => ?_) (fun hf => ?_)
    · refine v_aload_n 144 C dX11_evening_144 rfl rfl ?_
      refine v_callV (st := []) 145 C [] lm_X11_294 ly_X11_laidMany (hB 0 _ rfl) (by decide) dX11_evening_145 rfl (by decide) rfl (Nat.le_of_ble_eq_true rfl) (fun o1 h1 => m_X11_laidMany k hB  σ o1 h1) hf (fun v1 s2 hf => ?_)
      refine v_iload 148 C dX11_evening_148 rfl ?_
      refine v_isub 150 C dX11_evening_150 ?_
      refine v_istore (lv' := [(0, .ref (E.2.1 (k))), (1, .int x1), (4, .int x4), (5, .int (v1 - x4))]) 151 C dX11_evening_151 (by decide) rfl rfl ?_
      refine v_aload_n 153 C dX11_evening_153 rfl rfl ?_
      refine v_iconst (v := 1) 154 C dX11_evening_154 (by decide) ?_
      refine v_iconst (v := 0) 155 C dX11_evening_155 (by decide) ?_
      refine v_callV (st := []) 156 C [.int 1, .int 0] lm_X11_151 ly_X11_passesAll (hB 0 _ rfl) (by decide) dX11_evening_156 rfl (by decide) rfl (Nat.le_of_ble_eq_true rfl) (fun o1 h1 => m_X11_passesAll k hB 1 0 s2 o1 h1) hf (fun v3 s4 hf => ?_)
      refine v_iload 159 C dX11_evening_159 rfl ?_
      exact v_iret 161 C rfl dX11_evening_161 hf
    · refine v_aload_n 59 C dX11_evening_59 rfl rfl ?_
      refine v_aload_n 60 C dX11_evening_60 rfl rfl ?_
      refine v_getI (dum := 0) 61 C lk_X11_95 (hB 0 _ rfl) (by decide) rfl dX11_evening_61 ?_
      refine v_callV (st := []) 64 C [.int (σ (k) 13)] lm_X11_297 ly_X11_draw (hB 0 _ rfl) (by decide) dX11_evening_64 rfl (by decide) rfl (Nat.le_of_ble_eq_true rfl) (fun o1 h1 => m_X11_draw k hB (σ (k) 13) σ o1 h1) hf (fun v5 s6 hf => ?_)
      refine v_istore (lv' := [(0, .ref (E.2.1 (k))), (1, .int x1), (4, .int x4), (5, .int x5), (6, .int v5)]) 67 C dX11_evening_67 (by decide) rfl rfl ?_
      refine v_aload_n 69 C dX11_evening_69 rfl rfl ?_
      refine v_aload_n 70 C dX11_evening_70 rfl rfl ?_
      refine v_callV (st := [.ref (E.2.1 (k))]) 71 C [] lm_X11_91 ly_X11_cells (hB 0 _ rfl) (by decide) dX11_evening_71 rfl (by decide) rfl (Nat.le_of_ble_eq_true rfl) (fun o1 h1 => m_X11_cells k hB  s6 o1 h1) hf (fun v7 s8 hf => ?_)
      refine v_callV (st := []) 74 C [.int v7] lm_X11_297 ly_X11_draw (hB 0 _ rfl) (by decide) dX11_evening_74 rfl (by decide) rfl (Nat.le_of_ble_eq_true rfl) (fun o1 h1 => m_X11_draw k hB v7 s8 o1 h1) hf (fun v9 s10 hf => ?_)
      refine v_istore (lv' := [(0, .ref (E.2.1 (k))), (1, .int x1), (4, .int x4), (5, .int x5), (6, .int v5), (7, .int v9)]) 77 C dX11_evening_77 (by decide) rfl rfl ?_
      refine v_aload_n 79 C dX11_evening_79 rfl rfl ?_
      refine v_iconst (v := 4) 80 C dX11_evening_80 (by decide) ?_
      refine v_callV (st := []) 81 C [.int 4] lm_X11_297 ly_X11_draw (hB 0 _ rfl) (by decide) dX11_evening_81 rfl (by decide) rfl (Nat.le_of_ble_eq_true rfl) (fun o1 h1 => m_X11_draw k hB 4 s10 o1 h1) hf (fun v11 s12 hf => ?_)
      refine v_istore (lv' := [(0, .ref (E.2.1 (k))), (1, .int x1), (4, .int x4), (5, .int x5), (6, .int v5), (7, .int v9), (8, .int v11)]) 84 C dX11_evening_84 (by decide) rfl rfl ?_
      refine v_aload_n 86 C dX11_evening_86 rfl rfl ?_
      refine v_aload_n 87 C dX11_evening_87 rfl rfl ?_
      refine v_callV (st := [.ref (E.2.1 (k))]) 88 C [] lm_X11_91 ly_X11_cells (hB 0 _ rfl) (by decide) dX11_evening_88 rfl (by decide) rfl (Nat.le_of_ble_eq_true rfl) (fun o1 h1 => m_X11_cells k hB  s12 o1 h1) hf (fun v13 s14 hf => ?_)
      refine v_callV (st := []) 91 C [.int v13] lm_X11_297 ly_X11_draw (hB 0 _ rfl) (by decide) dX11_evening_91 rfl (by decide) rfl (Nat.le_of_ble_eq_true rfl) (fun o1 h1 => m_X11_draw k hB v13 s14 o1 h1) hf (fun v15 s16 hf => ?_)
      refine v_istore (lv' := [(0, .ref (E.2.1 (k))), (1, .int x1), (4, .int x4), (5, .int x5), (6, .int v5), (7, .int v9), (8, .int v11), (9, .int v15)]) 94 C dX11_evening_94 (by decide) rfl rfl ?_
      refine v_aload_n 96 C dX11_evening_96 rfl rfl ?_
      refine v_getR 97 C lk_X11_22 (hB 0 _ rfl) (by decide) rfl dX11_evening_97 ?_
      refine v_iload 100 C dX11_evening_100 rfl ?_
      refine v_iald 102 C (hB 5 _ rfl) dX11_evening_102 hf (fun v17 hf => ?_)
      refine v_if_ge (tgt := 138) 103 C dX11_evening_103 (by decide) hf (fun hf => ?_) (fun hf => ?_)
      · exact Vx.lv [0, 1, 2, 3] rfl (k_X11_evening_b138 C k hB (f_X11_evening_b53 k n) ih x1 x4 x5 s16 hf)
      · refine v_aload_n 106 C dX11_evening_106 rfl rfl ?_
        refine v_iload 107 C dX11_evening_107 rfl ?_
        refine v_callV (st := []) 109 C [.int v9] lm_X11_203 ly_X11_isLaid (hB 0 _ rfl) (by decide) dX11_evening_109 rfl (by decide) rfl (Nat.le_of_ble_eq_true rfl) (fun o1 h1 => m_X11_isLaid k hB v9 s16 o1 h1) hf (fun v18 s19 hf => ?_)
        refine v_if_ne (tgt := 138) 112 C dX11_evening_112 (by decide) hf (fun hf => ?_) (fun hf => ?_)
        · exact Vx.lv [0, 1, 2, 3] rfl (k_X11_evening_b138 C k hB (f_X11_evening_b53 k n) ih x1 x4 x5 s19 hf)
        · refine v_aload_n 115 C dX11_evening_115 rfl rfl ?_
          refine v_getR 116 C lk_X11_31 (hB 0 _ rfl) (by decide) rfl dX11_evening_116 ?_
          refine v_iload 119 C dX11_evening_119 rfl ?_
          refine v_iald 121 C (hB 8 _ rfl) dX11_evening_121 hf (fun v20 hf => ?_)
          refine v_if_ne (tgt := 138) 122 C dX11_evening_122 (by decide) hf (fun hf => ?_) (fun hf => ?_)
          · exact Vx.lv [0, 1, 2, 3] rfl (k_X11_evening_b138 C k hB (f_X11_evening_b53 k n) ih x1 x4 x5 s19 hf)
          · refine v_aload_n 125 C dX11_evening_125 rfl rfl ?_
            refine v_iload 126 C dX11_evening_126 rfl ?_
            refine v_iload 128 C dX11_evening_128 rfl ?_
            refine v_iload 130 C dX11_evening_130 rfl ?_
            refine v_iload 132 C dX11_evening_132 rfl ?_
            refine v_callV (st := []) 134 C [.int v5, .int v9, .int v11, .int v15] lm_X11_206 ly_X11_tries (hB 0 _ rfl) (by decide) dX11_evening_134 rfl (by decide) rfl (Nat.le_of_ble_eq_true rfl) (fun o1 h1 => m_X11_tries k hB v5 v9 v11 v15 s19 o1 h1) hf (fun v21 s22 hf => ?_)
            refine v_pop 137 C dX11_evening_137 rfl ?_
            exact Vx.lv [0, 1, 2, 3] rfl (k_X11_evening_b138 C k hB (f_X11_evening_b53 k n) ih x1 x4 x5 s22 hf)
def f_X11_evening_b23 (k : Nat) (x1 : Int32) (x2 : Int32) (x3 : Int32) (σ : Sg) : Rs := if x3 = 0 then (p_call (f_X11_passesAll k 1 1 σ) (fun v1 s2 => p_call (f_X11_laidMany k s2) (fun v3 s4 => p_put s4 (k) 37 x2 (fun s5 => f_X11_evening_b53 k fu x1 v3 0 s5)))) else (p_call (f_X11_no k x3 σ) (fun v6 s7 => some (v6, s7)))
set_option maxRecDepth 100000 in
set_option maxHeartbeats 4000000 in
theorem k_X11_evening_b23 {q : Mc} {E : En} {L : List Nat} {o : Int32 × Sg} (C : Cx q E L cX11_evening 10 RX11 (some .int) (10)) (k : Nat) (hB : Bk L sh_AuntsPuzzleModel k) (x1 : Int32) (x2 : Int32) (x3 : Int32) (σ : Sg) (hf : f_X11_evening_b23 k x1 x2 x3 σ = some o) : Vx q E L 10 (some .int) o 23 [(0, .ref (E.2.1 (k))), (1, .int x1), (2, .int x2), (3, .int x3)] [] σ := by
  unfold f_X11_evening_b23 at hf
  refine v_iload_n 23 C dX11_evening_23 rfl rfl ?_
  refine v_if_eq (tgt := 33) 24 C dX11_evening_24 (by decide) hf (fun hf => ?_) (fun hf => ?_)
  · refine v_aload_n 33 C dX11_evening_33 rfl rfl ?_
    refine v_iconst (v := 1) 34 C dX11_evening_34 (by decide) ?_
    refine v_iconst (v := 1) 35 C dX11_evening_35 (by decide) ?_
    refine v_callV (st := []) 36 C [.int 1, .int 1] lm_X11_151 ly_X11_passesAll (hB 0 _ rfl) (by decide) dX11_evening_36 rfl (by decide) rfl (Nat.le_of_ble_eq_true rfl) (fun o1 h1 => m_X11_passesAll k hB 1 1 σ o1 h1) hf (fun v1 s2 hf => ?_)
    refine v_aload_n 39 C dX11_evening_39 rfl rfl ?_
    refine v_callV (st := []) 40 C [] lm_X11_294 ly_X11_laidMany (hB 0 _ rfl) (by decide) dX11_evening_40 rfl (by decide) rfl (Nat.le_of_ble_eq_true rfl) (fun o1 h1 => m_X11_laidMany k hB  s2 o1 h1) hf (fun v3 s4 hf => ?_)
    refine v_istore (lv' := [(0, .ref (E.2.1 (k))), (1, .int x1), (2, .int x2), (3, .int x3), (4, .int v3)]) 43 C dX11_evening_43 (by decide) rfl rfl ?_
    refine v_aload_n 45 C dX11_evening_45 rfl rfl ?_
    refine v_iload_n 46 C dX11_evening_46 rfl rfl ?_
    refine v_putI 47 C lp_X11_288 (hB 0 _ rfl) (by decide) rfl dX11_evening_47 hf (fun s5 hf => ?_)
    refine v_iconst (v := 0) 50 C dX11_evening_50 (by decide) ?_
    refine v_istore (lv' := [(0, .ref (E.2.1 (k))), (1, .int x1), (2, .int x2), (3, .int x3), (4, .int v3), (5, .int 0)]) 51 C dX11_evening_51 (by decide) rfl rfl ?_
    exact Vx.lv [0, 1, 4, 5] rfl (k_X11_evening_b53 C k hB fu x1 v3 0 s5 hf)
  · refine v_aload_n 27 C dX11_evening_27 rfl rfl ?_
    refine v_iload_n 28 C dX11_evening_28 rfl rfl ?_
    refine v_callV (st := []) 29 C [.int x3] lm_X11_112 ly_X11_no (hB 0 _ rfl) (by decide) dX11_evening_29 rfl (by decide) rfl (Nat.le_of_ble_eq_true rfl) (fun o1 h1 => m_X11_no k hB x3 σ o1 h1) hf (fun v6 s7 hf => ?_)
    exact v_iret 32 C rfl dX11_evening_32 hf
def f_X11_evening (k : Nat) (x1 : Int32) (x2 : Int32) (σ : Sg) : Rs := p_call (f_X11_bound x1 1 200 σ) (fun v1 s2 => if v1 = 0 then (if (s2 (k) 13) = 0 then (f_X11_evening_b23 k x1 x2 (-3) s2) else (f_X11_evening_b23 k x1 x2 v1 s2)) else (f_X11_evening_b23 k x1 x2 v1 s2))
set_option maxRecDepth 100000 in
set_option maxHeartbeats 4000000 in
theorem k_X11_evening_b0 {q : Mc} {E : En} {L : List Nat} {o : Int32 × Sg} (C : Cx q E L cX11_evening 10 RX11 (some .int) (10)) (k : Nat) (hB : Bk L sh_AuntsPuzzleModel k) (x1 : Int32) (x2 : Int32) (σ : Sg) (hf : f_X11_evening k x1 x2 σ = some o) : Vx q E L 10 (some .int) o 0 [(0, .ref (E.2.1 (k))), (1, .int x1), (2, .int x2)] [] σ := by
  unfold f_X11_evening at hf
  refine v_iload_n 0 C dX11_evening_0 rfl rfl ?_
  refine v_iconst (v := 1) 1 C dX11_evening_1 (by decide) ?_
  refine v_sipush (v := 200) 2 C dX11_evening_2 (by decide) ?_
  refine v_callS (st := []) 5 C [.int x1, .int 1, .int 200] lm_X11_105 lz_X11_bound dX11_evening_5 rfl (by decide) rfl (Nat.le_of_ble_eq_true rfl) (fun o1 h1 => m_X11_bound   x1 1 200 σ o1 h1) hf (fun v1 s2 hf => ?_)
  refine v_istore_n (lv' := [(0, .ref (E.2.1 (k))), (1, .int x1), (2, .int x2), (3, .int v1)]) 8 C dX11_evening_8 rfl (by decide) rfl rfl ?_
  refine v_iload_n 9 C dX11_evening_9 rfl rfl ?_
  refine v_if_ne (tgt := 23) 10 C dX11_evening_10 (by decide) hf (fun hf => ?_) (fun hf => ?_)
  · exact Vx.lv [0, 1, 2, 3] rfl (k_X11_evening_b23 C k hB x1 x2 v1 s2 hf)
  · refine v_aload_n 13 C dX11_evening_13 rfl rfl ?_
    refine v_getI (dum := 0) 14 C lk_X11_95 (hB 0 _ rfl) (by decide) rfl dX11_evening_14 ?_
    refine v_if_ne (tgt := 23) 17 C dX11_evening_17 (by decide) hf (fun hf => ?_) (fun hf => ?_)
    · exact Vx.lv [0, 1, 2, 3] rfl (k_X11_evening_b23 C k hB x1 x2 v1 s2 hf)
    · refine v_bipush (v := (-3)) 20 C dX11_evening_20 (by decide) ?_
      refine v_istore_n (lv' := [(0, .ref (E.2.1 (k))), (1, .int x1), (2, .int x2), (3, .int (-3))]) 22 C dX11_evening_22 rfl (by decide) rfl rfl ?_
      exact Vx.lv [0, 1, 2, 3] rfl (k_X11_evening_b23 C k hB x1 x2 (-3) s2 hf)
theorem m_X11_evening {l : Launch} {E : En} {L : List Nat} (k : Nat) (hB : Bk L sh_AuntsPuzzleModel k) (x1 : Int32) (x2 : Int32) (σ : Sg) (o : Int32 × Sg) (hf : f_X11_evening k x1 x2 σ = some o) : Mi l yX11_evening cX11_evening 10 (some .int) (10) E L [.ref (E.2.1 (k)), .int x1, .int x2] σ o :=
  Mi.of RX11 rfl (by decide) (Nat.le_of_ble_eq_true rfl) (fun q hq C => by subst hq; exact k_X11_evening_b0 C k hB x1 x2 σ hf)
def f_X11_row_b24 (k : Nat) (x1 : Int32) (x2 : Int32) (σ : Sg) : Rs := if x2 = 0 then (p_wr σ (k + 23) 16 (σ (k) 39) x1 (fun s1 => p_put s1 (k) 39 ((s1 (k) 39) + 1) (fun s2 => some (s2 (k) 39, s2)))) else (p_call (f_X11_no k x2 σ) (fun v3 s4 => some (v3, s4)))
set_option maxRecDepth 100000 in
set_option maxHeartbeats 4000000 in
theorem k_X11_row_b24 {q : Mc} {E : En} {L : List Nat} {o : Int32 × Sg} (C : Cx q E L cX11_row 3 RX11 (some .int) (2)) (k : Nat) (hB : Bk L sh_AuntsPuzzleModel k) (x1 : Int32) (x2 : Int32) (σ : Sg) (hf : f_X11_row_b24 k x1 x2 σ = some o) : Vx q E L 3 (some .int) o 24 [(0, .ref (E.2.1 (k))), (1, .int x1), (2, .int x2)] [] σ := by
  unfold f_X11_row_b24 at hf
  refine v_iload_n 24 C dX11_row_24 rfl rfl ?_
  refine v_if_eq (tgt := 34) 25 C dX11_row_25 (by decide) hf (fun hf => ?_) (fun hf => ?_)
  · refine v_aload_n 34 C dX11_row_34 rfl rfl ?_
    refine v_getR 35 C lk_X11_76 (hB 0 _ rfl) (by decide) rfl dX11_row_35 ?_
    refine v_aload_n 38 C dX11_row_38 rfl rfl ?_
    refine v_getI (dum := 0) 39 C lk_X11_300 (hB 0 _ rfl) (by decide) rfl dX11_row_39 ?_
    refine v_iload_n 42 C dX11_row_42 rfl rfl ?_
    refine v_iast 43 C (hB 23 _ rfl) dX11_row_43 hf (fun s1 hf => ?_)
    refine v_aload_n 44 C dX11_row_44 rfl rfl ?_
    refine v_dup 45 C dX11_row_45 rfl ?_
    refine v_getI (dum := 0) 46 C lk_X11_300 (hB 0 _ rfl) (by decide) rfl dX11_row_46 ?_
    refine v_iconst (v := 1) 49 C dX11_row_49 (by decide) ?_
    refine v_iadd 50 C dX11_row_50 ?_
    refine v_putI 51 C lp_X11_300 (hB 0 _ rfl) (by decide) rfl dX11_row_51 hf (fun s2 hf => ?_)
    refine v_aload_n 54 C dX11_row_54 rfl rfl ?_
    refine v_getI (dum := 0) 55 C lk_X11_300 (hB 0 _ rfl) (by decide) rfl dX11_row_55 ?_
    exact v_iret 58 C rfl dX11_row_58 hf
  · refine v_aload_n 28 C dX11_row_28 rfl rfl ?_
    refine v_iload_n 29 C dX11_row_29 rfl rfl ?_
    refine v_callV (st := []) 30 C [.int x2] lm_X11_112 ly_X11_no (hB 0 _ rfl) (by decide) dX11_row_30 rfl (by decide) rfl (Nat.le_of_ble_eq_true rfl) (fun o1 h1 => m_X11_no k hB x2 σ o1 h1) hf (fun v3 s4 hf => ?_)
    exact v_iret 33 C rfl dX11_row_33 hf
def f_X11_row (k : Nat) (x1 : Int32) (σ : Sg) : Rs := p_call (f_X11_bound x1 0 99 σ) (fun v1 s2 => if v1 = 0 then (if (s2 (k) 39) = 16 then (f_X11_row_b24 k x1 (-6) s2) else (f_X11_row_b24 k x1 v1 s2)) else (f_X11_row_b24 k x1 v1 s2))
set_option maxRecDepth 100000 in
set_option maxHeartbeats 4000000 in
theorem k_X11_row_b0 {q : Mc} {E : En} {L : List Nat} {o : Int32 × Sg} (C : Cx q E L cX11_row 3 RX11 (some .int) (2)) (k : Nat) (hB : Bk L sh_AuntsPuzzleModel k) (x1 : Int32) (σ : Sg) (hf : f_X11_row k x1 σ = some o) : Vx q E L 3 (some .int) o 0 [(0, .ref (E.2.1 (k))), (1, .int x1)] [] σ := by
  unfold f_X11_row at hf
  refine v_iload_n 0 C dX11_row_0 rfl rfl ?_
  refine v_iconst (v := 0) 1 C dX11_row_1 (by decide) ?_
  refine v_bipush (v := 99) 2 C dX11_row_2 (by decide) ?_
  refine v_callS (st := []) 4 C [.int x1, .int 0, .int 99] lm_X11_105 lz_X11_bound dX11_row_4 rfl (by decide) rfl (Nat.le_of_ble_eq_true rfl) (fun o1 h1 => m_X11_bound   x1 0 99 σ o1 h1) hf (fun v1 s2 hf => ?_)
  refine v_istore_n (lv' := [(0, .ref (E.2.1 (k))), (1, .int x1), (2, .int v1)]) 7 C dX11_row_7 rfl (by decide) rfl rfl ?_
  refine v_iload_n 8 C dX11_row_8 rfl rfl ?_
  refine v_if_ne (tgt := 24) 9 C dX11_row_9 (by decide) hf (fun hf => ?_) (fun hf => ?_)
  · exact Vx.lv [0, 1, 2] rfl (k_X11_row_b24 C k hB x1 v1 s2 hf)
  · refine v_aload_n 12 C dX11_row_12 rfl rfl ?_
    refine v_getI (dum := 0) 13 C lk_X11_300 (hB 0 _ rfl) (by decide) rfl dX11_row_13 ?_
    refine v_bipush (v := 16) 16 C dX11_row_16 (by decide) ?_
    refine v_icmp_ne (tgt := 24) 18 C dX11_row_18 (by decide) hf (fun hf => ?_) (fun hf => ?_)
    · exact Vx.lv [0, 1, 2] rfl (k_X11_row_b24 C k hB x1 v1 s2 hf)
    · refine v_bipush (v := (-6)) 21 C dX11_row_21 (by decide) ?_
      refine v_istore_n (lv' := [(0, .ref (E.2.1 (k))), (1, .int x1), (2, .int (-6))]) 23 C dX11_row_23 rfl (by decide) rfl rfl ?_
      exact Vx.lv [0, 1, 2] rfl (k_X11_row_b24 C k hB x1 (-6) s2 hf)
theorem m_X11_row {l : Launch} {E : En} {L : List Nat} (k : Nat) (hB : Bk L sh_AuntsPuzzleModel k) (x1 : Int32) (σ : Sg) (o : Int32 × Sg) (hf : f_X11_row k x1 σ = some o) : Mi l yX11_row cX11_row 3 (some .int) (2) E L [.ref (E.2.1 (k)), .int x1] σ o :=
  Mi.of RX11 rfl (by decide) (Nat.le_of_ble_eq_true rfl) (fun q hq C => by subst hq; exact k_X11_row_b0 C k hB x1 σ hf)
def f_X11_judge_b62 (k : Nat) (x1 : Int32) (σ : Sg) : Rs := p_call (f_X11_cells k σ) (fun v1 s2 => if v1 ≤ x1 then (p_call (f_X11_cells k s2) (fun v3 s4 => if x1 ≤ v3 then (some ((-9), s4)) else (p_call (f_X11_cells k s4) (fun v5 s6 => some (v5, s6))))) else (some (x1, s2)))
set_option maxRecDepth 100000 in
set_option maxHeartbeats 4000000 in
theorem k_X11_judge_b62 {q : Mc} {E : En} {L : List Nat} {o : Int32 × Sg} (C : Cx q E L cX11_judge 3 RX11 (some .int) (2)) (k : Nat) (hB : Bk L sh_AuntsPuzzleModel k) (x1 : Int32) (σ : Sg) (hf : f_X11_judge_b62 k x1 σ = some o) : Vx q E L 3 (some .int) o 62 [(0, .ref (E.2.1 (k))), (1, .int x1)] [] σ := by
  unfold f_X11_judge_b62 at hf
  refine v_iload_n 62 C dX11_judge_62 rfl rfl ?_
  refine v_aload_n 63 C dX11_judge_63 rfl rfl ?_
  refine v_callV (st := [.int x1]) 64 C [] lm_X11_91 ly_X11_cells (hB 0 _ rfl) (by decide) dX11_judge_64 rfl (by decide) rfl (Nat.le_of_ble_eq_true rfl) (fun o1 h1 => m_X11_cells k hB  σ o1 h1) hf (fun v1 s2 hf => ?_)
  refine v_icmp_ge (tgt := 74) 67 C dX11_judge_67 (by decide) hf (fun hf => ?_) (fun hf => ?_)
  · refine v_iload_n 74 C dX11_judge_74 rfl rfl ?_
    refine v_aload_n 75 C dX11_judge_75 rfl rfl ?_
    refine v_callV (st := [.int x1]) 76 C [] lm_X11_91 ly_X11_cells (hB 0 _ rfl) (by decide) dX11_judge_76 rfl (by decide) rfl (Nat.le_of_ble_eq_true rfl) (fun o1 h1 => m_X11_cells k hB  s2 o1 h1) hf (fun v3 s4 hf => ?_)
    refine v_icmp_le (tgt := 89) 79 C dX11_judge_79 (by decide) hf (fun hf => ?_) (fun hf => ?_)
    · refine v_bipush (v := (-9)) 89 C dX11_judge_89 (by decide) ?_
      exact v_iret 91 C rfl dX11_judge_91 hf
    · refine v_aload_n 82 C dX11_judge_82 rfl rfl ?_
      refine v_callV (st := []) 83 C [] lm_X11_91 ly_X11_cells (hB 0 _ rfl) (by decide) dX11_judge_83 rfl (by decide) rfl (Nat.le_of_ble_eq_true rfl) (fun o1 h1 => m_X11_cells k hB  s4 o1 h1) hf (fun v5 s6 hf => ?_)
      refine v_goto (tgt := 91) 86 C dX11_judge_86 (by decide) ?_
      exact v_iret 91 C rfl dX11_judge_91 hf
  · refine v_iload_n 70 C dX11_judge_70 rfl rfl ?_
    refine v_goto (tgt := 91) 71 C dX11_judge_71 (by decide) ?_
    exact v_iret 91 C rfl dX11_judge_91 hf
def f_X11_judge_b45 (k : Nat) (r12 : Int32 → Int32 → Sg → Rs) (x1 : Int32) (x2 : Int32) (t0 : Int32) (σ : Sg) : Rs := p_rd σ (k + 23) 16 x2 (fun v1 => if t0 = v1 then (r12 x1 (x2 + 1) σ) else (some (x2, σ)))
set_option maxRecDepth 100000 in
set_option maxHeartbeats 4000000 in
theorem k_X11_judge_b45 {q : Mc} {E : En} {L : List Nat} {o : Int32 × Sg} (C : Cx q E L cX11_judge 3 RX11 (some .int) (2)) (k : Nat) (hB : Bk L sh_AuntsPuzzleModel k) (r12 : Int32 → Int32 → Sg → Rs) (hr12 : ∀ (x1 : Int32) (x2 : Int32) (σ : Sg), r12 x1 x2 σ = some o → Vx q E L 3 (some .int) o 12 [(0, .ref (E.2.1 (k))), (1, .int x1), (2, .int x2)] [] σ) (x1 : Int32) (x2 : Int32) (t0 : Int32) (σ : Sg) (hf : f_X11_judge_b45 k r12 x1 x2 t0 σ = some o) : Vx q E L 3 (some .int) o 45 [(0, .ref (E.2.1 (k))), (1, .int x1), (2, .int x2)] [.int t0] σ := by
  unfold f_X11_judge_b45 at hf
  refine v_aload_n 45 C dX11_judge_45 rfl rfl ?_
  refine v_getR 46 C lk_X11_76 (hB 0 _ rfl) (by decide) rfl dX11_judge_46 ?_
  refine v_iload_n 49 C dX11_judge_49 rfl rfl ?_
  refine v_iald 50 C (hB 23 _ rfl) dX11_judge_50 hf (fun v1 hf => ?_)
  refine v_icmp_eq (tgt := 56) 51 C dX11_judge_51 (by decide) hf (fun hf => ?_) (fun hf => ?_)
  · refine v_iinc (v := x2 + 1) (lv' := [(0, .ref (E.2.1 (k))), (1, .int x1), (2, .int (x2 + 1))]) 56 C dX11_judge_56 rfl (by rfl) (by decide) rfl rfl ?_
    refine v_goto (tgt := 12) 59 C dX11_judge_59 (by decide) ?_
    exact Vx.lv [0, 1, 2] rfl (hr12 x1 (x2 + 1) σ hf)
  · refine v_iload_n 54 C dX11_judge_54 rfl rfl ?_
    exact v_iret 55 C rfl dX11_judge_55 hf
def f_X11_judge_b12 (k : Nat)  : Nat → Int32 → Int32 → Sg → Rs
  | 0, _, _, _ => none
  | n + 1, x1, x2, σ => if x1 ≤ x2 then (f_X11_judge_b62 k x1 σ) else (p_call (f_X11_cells k σ) (fun v1 s2 => if v1 ≤ x2 then (f_X11_judge_b62 k x1 s2) else (p_rd s2 (k + 5) 16 x2 (fun v3 => if 0 ≤ v3 then (p_rd s2 (k + 5) 16 x2 (fun v4 => f_X11_judge_b45 k (f_X11_judge_b12 k n) x1 x2 v4 s2)) else (f_X11_judge_b45 k (f_X11_judge_b12 k n) x1 x2 99 s2)))))
set_option maxRecDepth 100000 in
set_option maxHeartbeats 4000000 in
theorem k_X11_judge_b12 {q : Mc} {E : En} {L : List Nat} {o : Int32 × Sg} (C : Cx q E L cX11_judge 3 RX11 (some .int) (2)) (k : Nat) (hB : Bk L sh_AuntsPuzzleModel k) (n : Nat) : ∀ (x1 : Int32) (x2 : Int32) (σ : Sg), f_X11_judge_b12 k n x1 x2 σ = some o → Vx q E L 3 (some .int) o 12 [(0, .ref (E.2.1 (k))), (1, .int x1), (2, .int x2)] [] σ := by
  induction n with
  | zero => intro x1 x2 σ hf; cases (show (none : Rs) = some o from hf)
  | succ n ih =>
    intro x1 x2 σ hf
    rw [f_X11_judge_b12] at hf
    refine v_iload_n 12 C dX11_judge_12 rfl rfl ?_
    refine v_iload_n 13 C dX11_judge_13 rfl rfl ?_
    refine v_icmp_ge (tgt := 62) 14 C dX11_judge_14 (by decide) hf (fun hf => ?_) (fun hf => ?_)
    · exact Vx.lv [0, 1] rfl (k_X11_judge_b62 C k hB x1 σ hf)
    · refine v_iload_n 17 C dX11_judge_17 rfl rfl ?_
      refine v_aload_n 18 C dX11_judge_18 rfl rfl ?_
      refine v_callV (st := [.int x2]) 19 C [] lm_X11_91 ly_X11_cells (hB 0 _ rfl) (by decide) dX11_judge_19 rfl (by decide) rfl (Nat.le_of_ble_eq_true rfl) (fun o1 h1 => m_X11_cells k hB  σ o1 h1) hf (fun v1 s2 hf => ?_)
      refine v_icmp_ge (tgt := 62) 22 C dX11_judge_22 (by decide) hf (fun hf => ?_) (fun hf => ?_)
      · exact Vx.lv [0, 1] rfl (k_X11_judge_b62 C k hB x1 s2 hf)
      · refine v_aload_n 25 C dX11_judge_25 rfl rfl ?_
        refine v_getR 26 C lk_X11_22 (hB 0 _ rfl) (by decide) rfl dX11_judge_26 ?_
        refine v_iload_n 29 C dX11_judge_29 rfl rfl ?_
        refine v_iald 30 C (hB 5 _ rfl) dX11_judge_30 hf (fun v3 hf => ?_)
        refine v_if_ge (tgt := 39) 31 C dX11_judge_31 (by decide) hf (fun hf => ?_) (fun hf => ?_)
        · refine v_aload_n 39 C dX11_judge_39 rfl rfl ?_
          refine v_getR 40 C lk_X11_22 (hB 0 _ rfl) (by decide) rfl dX11_judge_40 ?_
          refine v_iload_n 43 C dX11_judge_43 rfl rfl ?_
          refine v_iald 44 C (hB 5 _ rfl) dX11_judge_44 hf (fun v4 hf => ?_)
          exact Vx.lv [0, 1, 2] rfl (k_X11_judge_b45 C k hB (f_X11_judge_b12 k n) ih x1 x2 v4 s2 hf)
        · refine v_bipush (v := 99) 34 C dX11_judge_34 (by decide) ?_
          refine v_goto (tgt := 45) 36 C dX11_judge_36 (by decide) ?_
          exact Vx.lv [0, 1, 2] rfl (k_X11_judge_b45 C k hB (f_X11_judge_b12 k n) ih x1 x2 99 s2 hf)
def f_X11_judge (k : Nat) (σ : Sg) : Rs := p_put σ (k) 39 0 (fun s1 => f_X11_judge_b12 k fu (σ (k) 39) 0 s1)
set_option maxRecDepth 100000 in
set_option maxHeartbeats 4000000 in
theorem k_X11_judge_b0 {q : Mc} {E : En} {L : List Nat} {o : Int32 × Sg} (C : Cx q E L cX11_judge 3 RX11 (some .int) (2)) (k : Nat) (hB : Bk L sh_AuntsPuzzleModel k) (σ : Sg) (hf : f_X11_judge k σ = some o) : Vx q E L 3 (some .int) o 0 [(0, .ref (E.2.1 (k)))] [] σ := by
  unfold f_X11_judge at hf
  refine v_aload_n 0 C dX11_judge_0 rfl rfl ?_
  refine v_getI (dum := 0) 1 C lk_X11_300 (hB 0 _ rfl) (by decide) rfl dX11_judge_1 ?_
  refine v_istore_n (lv' := [(0, .ref (E.2.1 (k))), (1, .int (σ (k) 39))]) 4 C dX11_judge_4 rfl (by decide) rfl rfl ?_
  refine v_aload_n 5 C dX11_judge_5 rfl rfl ?_
  refine v_iconst (v := 0) 6 C dX11_judge_6 (by decide) ?_
  refine v_putI 7 C lp_X11_300 (hB 0 _ rfl) (by decide) rfl dX11_judge_7 hf (fun s1 hf => ?_)
  refine v_iconst (v := 0) 10 C dX11_judge_10 (by decide) ?_
  refine v_istore_n (lv' := [(0, .ref (E.2.1 (k))), (1, .int (σ (k) 39)), (2, .int 0)]) 11 C dX11_judge_11 rfl (by decide) rfl rfl ?_
  exact Vx.lv [0, 1, 2] rfl (k_X11_judge_b12 C k hB fu (σ (k) 39) 0 s1 hf)
theorem m_X11_judge {l : Launch} {E : En} {L : List Nat} (k : Nat) (hB : Bk L sh_AuntsPuzzleModel k) (σ : Sg) (o : Int32 × Sg) (hf : f_X11_judge k σ = some o) : Mi l yX11_judge cX11_judge 3 (some .int) (2) E L [.ref (E.2.1 (k))] σ o :=
  Mi.of RX11 rfl (by decide) (Nat.le_of_ble_eq_true rfl) (fun q hq C => by subst hq; exact k_X11_judge_b0 C k hB  σ hf)
def f_X11_image (k : Nat) (σ : Sg) : Rs := p_bo 1 (p_put σ (k) 25 1 (fun s1 => p_call (f_X11_passesAll k 0 1 s1) (fun v2 s3 => p_call (f_X11_laidMany k s3) (fun v4 s5 => some (v4, s5)))))
set_option maxRecDepth 100000 in
set_option maxHeartbeats 4000000 in
theorem k_X11_image_b0 {q : Mc} {E : En} {L : List Nat} {o : Int32 × Sg} (C : Cx q E L cX11_image 1 RX11 (some .int) (3)) (k : Nat) (hB : Bk L sh_AuntsPuzzleModel k) (σ : Sg) (hf : f_X11_image k σ = some o) : Vx q E L 1 (some .int) o 0 [(0, .ref (E.2.1 (k)))] [] σ := by
  unfold f_X11_image at hf
  refine v_aload_n 0 C dX11_image_0 rfl rfl ?_
  refine v_iconst (v := 1) 1 C dX11_image_1 (by decide) ?_
  refine v_putZ 2 C lp_X11_303 (hB 0 _ rfl) (by decide) rfl dX11_image_2 hf (fun s1 hf => ?_)
  refine v_aload_n 5 C dX11_image_5 rfl rfl ?_
  refine v_iconst (v := 0) 6 C dX11_image_6 (by decide) ?_
  refine v_iconst (v := 1) 7 C dX11_image_7 (by decide) ?_
  refine v_callV (st := []) 8 C [.int 0, .int 1] lm_X11_151 ly_X11_passesAll (hB 0 _ rfl) (by decide) dX11_image_8 rfl (by decide) rfl (Nat.le_of_ble_eq_true rfl) (fun o1 h1 => m_X11_passesAll k hB 0 1 s1 o1 h1) hf (fun v2 s3 hf => ?_)
  refine v_aload_n 11 C dX11_image_11 rfl rfl ?_
  refine v_callV (st := []) 12 C [] lm_X11_294 ly_X11_laidMany (hB 0 _ rfl) (by decide) dX11_image_12 rfl (by decide) rfl (Nat.le_of_ble_eq_true rfl) (fun o1 h1 => m_X11_laidMany k hB  s3 o1 h1) hf (fun v4 s5 hf => ?_)
  exact v_iret 15 C rfl dX11_image_15 hf
theorem m_X11_image {l : Launch} {E : En} {L : List Nat} (k : Nat) (hB : Bk L sh_AuntsPuzzleModel k) (σ : Sg) (o : Int32 × Sg) (hf : f_X11_image k σ = some o) : Mi l yX11_image cX11_image 1 (some .int) (3) E L [.ref (E.2.1 (k))] σ o :=
  Mi.of RX11 rfl (by decide) (Nat.le_of_ble_eq_true rfl) (fun q hq C => by subst hq; exact k_X11_image_b0 C k hB  σ hf)
def f_X11_on (k : Nat) (σ : Sg) : Rs := if (σ (k) 25) = 0 then (p_call (f_X11_no k (-3) σ) (fun v5 s6 => some (v5, s6))) else (p_call (f_X11_passesAll k 0 0 σ) (fun v1 s2 => p_call (f_X11_laidMany k s2) (fun v3 s4 => some (v3, s4))))
set_option maxRecDepth 100000 in
set_option maxHeartbeats 4000000 in
theorem k_X11_on_b0 {q : Mc} {E : En} {L : List Nat} {o : Int32 × Sg} (C : Cx q E L cX11_on 1 RX11 (some .int) (3)) (k : Nat) (hB : Bk L sh_AuntsPuzzleModel k) (σ : Sg) (hf : f_X11_on k σ = some o) : Vx q E L 1 (some .int) o 0 [(0, .ref (E.2.1 (k)))] [] σ := by
  unfold f_X11_on at hf
  refine v_aload_n 0 C dX11_on_0 rfl rfl ?_
  refine v_getI (dum := 0) 1 C lk_X11_303 (hB 0 _ rfl) (by decide) rfl dX11_on_1 ?_
  refine v_if_ne (tgt := 14) 4 C dX11_on_4 (by decide) hf (fun hf => ?_) (fun hf => ?_)
  · refine v_aload_n 14 C dX11_on_14 rfl rfl ?_
    refine v_iconst (v := 0) 15 C dX11_on_15 (by decide) ?_
    refine v_iconst (v := 0) 16 C dX11_on_16 (by decide) ?_
    refine v_callV (st := []) 17 C [.int 0, .int 0] lm_X11_151 ly_X11_passesAll (hB 0 _ rfl) (by decide) dX11_on_17 rfl (by decide) rfl (Nat.le_of_ble_eq_true rfl) (fun o1 h1 => m_X11_passesAll k hB 0 0 σ o1 h1) hf (fun v1 s2 hf => ?_)
    refine v_aload_n 20 C dX11_on_20 rfl rfl ?_
    refine v_callV (st := []) 21 C [] lm_X11_294 ly_X11_laidMany (hB 0 _ rfl) (by decide) dX11_on_21 rfl (by decide) rfl (Nat.le_of_ble_eq_true rfl) (fun o1 h1 => m_X11_laidMany k hB  s2 o1 h1) hf (fun v3 s4 hf => ?_)
    exact v_iret 24 C rfl dX11_on_24 hf
  · refine v_aload_n 7 C dX11_on_7 rfl rfl ?_
    refine v_bipush (v := (-3)) 8 C dX11_on_8 (by decide) ?_
    refine v_callV (st := []) 10 C [.int (-3)] lm_X11_112 ly_X11_no (hB 0 _ rfl) (by decide) dX11_on_10 rfl (by decide) rfl (Nat.le_of_ble_eq_true rfl) (fun o1 h1 => m_X11_no k hB (-3) σ o1 h1) hf (fun v5 s6 hf => ?_)
    exact v_iret 13 C rfl dX11_on_13 hf
theorem m_X11_on {l : Launch} {E : En} {L : List Nat} (k : Nat) (hB : Bk L sh_AuntsPuzzleModel k) (σ : Sg) (o : Int32 × Sg) (hf : f_X11_on k σ = some o) : Mi l yX11_on cX11_on 1 (some .int) (3) E L [.ref (E.2.1 (k))] σ o :=
  Mi.of RX11 rfl (by decide) (Nat.le_of_ble_eq_true rfl) (fun q hq C => by subst hq; exact k_X11_on_b0 C k hB  σ hf)
def f_X11_count (k : Nat) (x1 : Int32) (σ : Sg) : Rs := p_call (f_X11_isIn x1 11 16 σ) (fun v1 s2 => if v1 = 0 then (if x1 = 0 then (some (s2 (k) 11, s2)) else (if x1 = 1 then (some (s2 (k) 12, s2)) else (if x1 = 2 then (some (s2 (k) 13, s2)) else (if x1 = 3 then (p_call (f_X11_laidMany k s2) (fun v3 s4 => some (v3, s4))) else (if x1 = 4 then (p_call (f_X11_lostMany k s2) (fun v5 s6 => some (v5, s6))) else (if x1 = 5 then (some (((s2 (k) 11) * ((s2 (k) 12) - 1)) + ((s2 (k) 12) * ((s2 (k) 11) - 1)), s2)) else (if x1 = 6 then (some (s2 (k) 14, s2)) else (if x1 = 7 then (some (s2 (k) 39, s2)) else (if x1 = 8 then (some (s2 (k) 21, s2)) else (some ((-9), s2))))))))))) else (p_rd s2 (k + 1) 7 (x1 - 10) (fun v7 => some (v7, s2))))
set_option maxRecDepth 100000 in
set_option maxHeartbeats 4000000 in
theorem k_X11_count_b0 {q : Mc} {E : En} {L : List Nat} {o : Int32 × Sg} (C : Cx q E L cX11_count 2 RX11 (some .int) (3)) (k : Nat) (hB : Bk L sh_AuntsPuzzleModel k) (x1 : Int32) (σ : Sg) (hf : f_X11_count k x1 σ = some o) : Vx q E L 2 (some .int) o 0 [(0, .ref (E.2.1 (k))), (1, .int x1)] [] σ := by
  unfold f_X11_count at hf
  refine v_iload_n 0 C dX11_count_0 rfl rfl ?_
  refine v_bipush (v := 11) 1 C dX11_count_1 (by decide) ?_
  refine v_bipush (v := 16) 3 C dX11_count_3 (by decide) ?_
  refine v_callS (st := []) 5 C [.int x1, .int 11, .int 16] lm_X11_124 lz_X11_isIn dX11_count_5 rfl (by decide) rfl (Nat.le_of_ble_eq_true rfl) (fun o1 h1 => m_X11_isIn   x1 11 16 σ o1 h1) hf (fun v1 s2 hf => ?_)
  refine v_if_eq (tgt := 21) 8 C dX11_count_8 (by decide) hf (fun hf => ?_) (fun hf => ?_)
  · refine v_iload_n 21 C dX11_count_21 rfl rfl ?_
    refine v_case (v := 0) hf (fun hx hf => ?_) (fun hn0 hf => ?_)
    · refine v_tabIn (tgt := 72) 22 C hx dX11_count_22 (by decide) rfl (by decide) ?_
      refine v_aload_n 72 C dX11_count_72 rfl rfl ?_
      refine v_getI (dum := 0) 73 C lk_X11_84 (hB 0 _ rfl) (by decide) rfl dX11_count_73 ?_
      exact v_iret 76 C rfl dX11_count_76 hf
    refine v_case (v := 1) hf (fun hx hf => ?_) (fun hn1 hf => ?_)
    · refine v_tabIn (tgt := 77) 22 C hx dX11_count_22 (by decide) rfl (by decide) ?_
      refine v_aload_n 77 C dX11_count_77 rfl rfl ?_
      refine v_getI (dum := 0) 78 C lk_X11_88 (hB 0 _ rfl) (by decide) rfl dX11_count_78 ?_
      exact v_iret 81 C rfl dX11_count_81 hf
    refine v_case (v := 2) hf (fun hx hf => ?_) (fun hn2 hf => ?_)
    · refine v_tabIn (tgt := 82) 22 C hx dX11_count_22 (by decide) rfl (by decide) ?_
      refine v_aload_n 82 C dX11_count_82 rfl rfl ?_
      refine v_getI (dum := 0) 83 C lk_X11_95 (hB 0 _ rfl) (by decide) rfl dX11_count_83 ?_
      exact v_iret 86 C rfl dX11_count_86 hf
    refine v_case (v := 3) hf (fun hx hf => ?_) (fun hn3 hf => ?_)
    · refine v_tabIn (tgt := 87) 22 C hx dX11_count_22 (by decide) rfl (by decide) ?_
      refine v_aload_n 87 C dX11_count_87 rfl rfl ?_
      refine v_callV (st := []) 88 C [] lm_X11_294 ly_X11_laidMany (hB 0 _ rfl) (by decide) dX11_count_88 rfl (by decide) rfl (Nat.le_of_ble_eq_true rfl) (fun o1 h1 => m_X11_laidMany k hB  s2 o1 h1) hf (fun v3 s4 hf => ?_)
      exact v_iret 91 C rfl dX11_count_91 hf
    refine v_case (v := 4) hf (fun hx hf => ?_) (fun hn4 hf => ?_)
    · refine v_tabIn (tgt := 92) 22 C hx dX11_count_22 (by decide) rfl (by decide) ?_
      refine v_aload_n 92 C dX11_count_92 rfl rfl ?_
      refine v_callV (st := []) 93 C [] lm_X11_208 ly_X11_lostMany (hB 0 _ rfl) (by decide) dX11_count_93 rfl (by decide) rfl (Nat.le_of_ble_eq_true rfl) (fun o1 h1 => m_X11_lostMany k hB  s2 o1 h1) hf (fun v5 s6 hf => ?_)
      exact v_iret 96 C rfl dX11_count_96 hf
    refine v_case (v := 5) hf (fun hx hf => ?_) (fun hn5 hf => ?_)
    · refine v_tabIn (tgt := 97) 22 C hx dX11_count_22 (by decide) rfl (by decide) ?_
      refine v_aload_n 97 C dX11_count_97 rfl rfl ?_
      refine v_getI (dum := 0) 98 C lk_X11_84 (hB 0 _ rfl) (by decide) rfl dX11_count_98 ?_
      refine v_aload_n 101 C dX11_count_101 rfl rfl ?_
      refine v_getI (dum := 0) 102 C lk_X11_88 (hB 0 _ rfl) (by decide) rfl dX11_count_102 ?_
      refine v_iconst (v := 1) 105 C dX11_count_105 (by decide) ?_
      refine v_isub 106 C dX11_count_106 ?_
      refine v_imul 107 C dX11_count_107 ?_
      refine v_aload_n 108 C dX11_count_108 rfl rfl ?_
      refine v_getI (dum := 0) 109 C lk_X11_88 (hB 0 _ rfl) (by decide) rfl dX11_count_109 ?_
      refine v_aload_n 112 C dX11_count_112 rfl rfl ?_
      refine v_getI (dum := 0) 113 C lk_X11_84 (hB 0 _ rfl) (by decide) rfl dX11_count_113 ?_
      refine v_iconst (v := 1) 116 C dX11_count_116 (by decide) ?_
      refine v_isub 117 C dX11_count_117 ?_
      refine v_imul 118 C dX11_count_118 ?_
      refine v_iadd 119 C dX11_count_119 ?_
      exact v_iret 120 C rfl dX11_count_120 hf
    refine v_case (v := 6) hf (fun hx hf => ?_) (fun hn6 hf => ?_)
    · refine v_tabIn (tgt := 121) 22 C hx dX11_count_22 (by decide) rfl (by decide) ?_
      refine v_aload_n 121 C dX11_count_121 rfl rfl ?_
      refine v_getI (dum := 0) 122 C lk_X11_172 (hB 0 _ rfl) (by decide) rfl dX11_count_122 ?_
      exact v_iret 125 C rfl dX11_count_125 hf
    refine v_case (v := 7) hf (fun hx hf => ?_) (fun hn7 hf => ?_)
    · refine v_tabIn (tgt := 126) 22 C hx dX11_count_22 (by decide) rfl (by decide) ?_
      refine v_aload_n 126 C dX11_count_126 rfl rfl ?_
      refine v_getI (dum := 0) 127 C lk_X11_300 (hB 0 _ rfl) (by decide) rfl dX11_count_127 ?_
      exact v_iret 130 C rfl dX11_count_130 hf
    refine v_case (v := 8) hf (fun hx hf => ?_) (fun hn8 hf => ?_)
    · refine v_tabIn (tgt := 131) 22 C hx dX11_count_22 (by decide) rfl (by decide) ?_
      refine v_aload_n 131 C dX11_count_131 rfl rfl ?_
      refine v_getI (dum := 0) 132 C lk_X11_109 (hB 0 _ rfl) (by decide) rfl dX11_count_132 ?_
      exact v_iret 135 C rfl dX11_count_135 hf
    refine v_tabOut (tgt := 136) 22 C dX11_count_22 (by have g0 := lv_neT hn0 (show (0 : Int32).toInt = 0 from rfl); have g1 := lv_neT hn1 (show (1 : Int32).toInt = 1 from rfl); have g2 := lv_neT hn2 (show (2 : Int32).toInt = 2 from rfl); have g3 := lv_neT hn3 (show (3 : Int32).toInt = 3 from rfl); have g4 := lv_neT hn4 (show (4 : Int32).toInt = 4 from rfl); have g5 := lv_neT hn5 (show (5 : Int32).toInt = 5 from rfl); have g6 := lv_neT hn6 (show (6 : Int32).toInt = 6 from rfl); have g7 := lv_neT hn7 (show (7 : Int32).toInt = 7 from rfl); have g8 := lv_neT hn8 (show (8 : Int32).toInt = 8 from rfl); omega) (by decide) ?_
    refine v_bipush (v := (-9)) 136 C dX11_count_136 (by decide) ?_
    exact v_iret 138 C rfl dX11_count_138 hf
  · refine v_aload_n 11 C dX11_count_11 rfl rfl ?_
    refine v_getR 12 C lk_X11_7 (hB 0 _ rfl) (by decide) rfl dX11_count_12 ?_
    refine v_iload_n 15 C dX11_count_15 rfl rfl ?_
    refine v_bipush (v := 10) 16 C dX11_count_16 (by decide) ?_
    refine v_isub 18 C dX11_count_18 ?_
    refine v_iald 19 C (hB 1 _ rfl) dX11_count_19 hf (fun v7 hf => ?_)
    exact v_iret 20 C rfl dX11_count_20 hf
theorem m_X11_count {l : Launch} {E : En} {L : List Nat} (k : Nat) (hB : Bk L sh_AuntsPuzzleModel k) (x1 : Int32) (σ : Sg) (o : Int32 × Sg) (hf : f_X11_count k x1 σ = some o) : Mi l yX11_count cX11_count 2 (some .int) (3) E L [.ref (E.2.1 (k)), .int x1] σ o :=
  Mi.of RX11 rfl (by decide) (Nat.le_of_ble_eq_true rfl) (fun q hq C => by subst hq; exact k_X11_count_b0 C k hB x1 σ hf)
