/-! printed by wip/whole/gen/gen.py: methods as pure functions, and that the machine does them -/
def f_X1_neighbourAcross (k : Nat) (x1 : Int32) (x2 : Int32) (σ : Sg) : Rs := p_nz (σ (k) 1) (p_nz (σ (k) 1) (if x2 = 0 then (if (x1 / (σ (k) 1)) ≤ 0 then (some ((-1), σ)) else (some (x1 - (σ (k) 1), σ))) else (if x2 = 1 then (if ((σ (k) 1) - 1) ≤ (x1 - x1 / (σ (k) 1) * (σ (k) 1)) then (some ((-1), σ)) else (some (x1 + 1, σ))) else (if x2 = 2 then (if ((σ (k) 0) - 1) ≤ (x1 / (σ (k) 1)) then (some ((-1), σ)) else (some (x1 + (σ (k) 1), σ))) else (if (x1 - x1 / (σ (k) 1) * (σ (k) 1)) ≤ 0 then (some ((-1), σ)) else (some (x1 - 1, σ)))))))
set_option maxRecDepth 100000 in
set_option maxHeartbeats 4000000 in
theorem k_X1_neighbourAcross_b0 {q : Mc} {E : En} {L : List Nat} {o : Int32 × Sg} (C : Cx q E L cX1_neighbourAcross 5 RX1 (some .int) (1)) (k : Nat) (hB : Bk L sh_Cut k) (x1 : Int32) (x2 : Int32) (σ : Sg) (hf : f_X1_neighbourAcross k x1 x2 σ = some o) : Vx q E L 5 (some .int) o 0 [(0, .ref (E.2.1 (k))), (1, .int x1), (2, .int x2)] [] σ := by
  unfold f_X1_neighbourAcross at hf
  refine v_iload_n 0 C dX1_neighbourAcross_0 rfl rfl ?_
  refine v_aload_n 1 C dX1_neighbourAcross_1 rfl rfl ?_
  refine v_getI (dum := 0) 2 C lk_X1_29 (hB 0 _ rfl) (by decide) rfl dX1_neighbourAcross_2 ?_
  refine v_idiv 5 C dX1_neighbourAcross_5 hf (fun hf => ?_)
  refine v_istore_n (lv' := [(0, .ref (E.2.1 (k))), (1, .int x1), (2, .int x2), (3, .int (x1 / (σ (k) 1)))]) 6 C dX1_neighbourAcross_6 rfl (by decide) rfl rfl ?_
  refine v_iload_n 7 C dX1_neighbourAcross_7 rfl rfl ?_
  refine v_aload_n 8 C dX1_neighbourAcross_8 rfl rfl ?_
  refine v_getI (dum := 0) 9 C lk_X1_29 (hB 0 _ rfl) (by decide) rfl dX1_neighbourAcross_9 ?_
  refine v_irem 12 C dX1_neighbourAcross_12 hf (fun hf => ?_)
  refine v_istore (lv' := [(0, .ref (E.2.1 (k))), (1, .int x1), (2, .int x2), (3, .int (x1 / (σ (k) 1))), (4, .int (x1 - x1 / (σ (k) 1) * (σ (k) 1)))]) 13 C dX1_neighbourAcross_13 (by decide) rfl rfl ?_
  refine v_iload_n 15 C dX1_neighbourAcross_15 rfl rfl ?_
  refine v_case (v := 0) hf (fun hx hf => ?_) (fun hn0 hf => ?_)
  · refine v_tabIn (tgt := 44) 16 C hx dX1_neighbourAcross_16 (by decide) rfl (by decide) ?_
    refine v_iload_n 44 C dX1_neighbourAcross_44 rfl rfl ?_
    refine v_if_le (tgt := 57) 45 C dX1_neighbourAcross_45 (by decide) hf (fun hf => ?_) (fun hf => ?_)
    · refine v_iconst (v := (-1)) 57 C dX1_neighbourAcross_57 (by decide) ?_
      exact v_iret 58 C rfl dX1_neighbourAcross_58 hf
    · refine v_iload_n 48 C dX1_neighbourAcross_48 rfl rfl ?_
      refine v_aload_n 49 C dX1_neighbourAcross_49 rfl rfl ?_
      refine v_getI (dum := 0) 50 C lk_X1_29 (hB 0 _ rfl) (by decide) rfl dX1_neighbourAcross_50 ?_
      refine v_isub 53 C dX1_neighbourAcross_53 ?_
      refine v_goto (tgt := 58) 54 C dX1_neighbourAcross_54 (by decide) ?_
      exact v_iret 58 C rfl dX1_neighbourAcross_58 hf
  refine v_case (v := 1) hf (fun hx hf => ?_) (fun hn1 hf => ?_)
  · refine v_tabIn (tgt := 59) 16 C hx dX1_neighbourAcross_16 (by decide) rfl (by decide) ?_
    refine v_iload 59 C dX1_neighbourAcross_59 rfl ?_
    refine v_aload_n 61 C dX1_neighbourAcross_61 rfl rfl ?_
    refine v_getI (dum := 0) 62 C lk_X1_29 (hB 0 _ rfl) (by decide) rfl dX1_neighbourAcross_62 ?_
    refine v_iconst (v := 1) 65 C dX1_neighbourAcross_65 (by decide) ?_
    refine v_isub 66 C dX1_neighbourAcross_66 ?_
    refine v_icmp_ge (tgt := 76) 67 C dX1_neighbourAcross_67 (by decide) hf (fun hf => ?_) (fun hf => ?_)
    · refine v_iconst (v := (-1)) 76 C dX1_neighbourAcross_76 (by decide) ?_
      exact v_iret 77 C rfl dX1_neighbourAcross_77 hf
    · refine v_iload_n 70 C dX1_neighbourAcross_70 rfl rfl ?_
      refine v_iconst (v := 1) 71 C dX1_neighbourAcross_71 (by decide) ?_
      refine v_iadd 72 C dX1_neighbourAcross_72 ?_
      refine v_goto (tgt := 77) 73 C dX1_neighbourAcross_73 (by decide) ?_
      exact v_iret 77 C rfl dX1_neighbourAcross_77 hf
  refine v_case (v := 2) hf (fun hx hf => ?_) (fun hn2 hf => ?_)
  · refine v_tabIn (tgt := 78) 16 C hx dX1_neighbourAcross_16 (by decide) rfl (by decide) ?_
    refine v_iload_n 78 C dX1_neighbourAcross_78 rfl rfl ?_
    refine v_aload_n 79 C dX1_neighbourAcross_79 rfl rfl ?_
    refine v_getI (dum := 0) 80 C lk_X1_25 (hB 0 _ rfl) (by decide) rfl dX1_neighbourAcross_80 ?_
    refine v_iconst (v := 1) 83 C dX1_neighbourAcross_83 (by decide) ?_
    refine v_isub 84 C dX1_neighbourAcross_84 ?_
    refine v_icmp_ge (tgt := 97) 85 C dX1_neighbourAcross_85 (by decide) hf (fun hf => ?_) (fun hf => ?_)
    · refine v_iconst (v := (-1)) 97 C dX1_neighbourAcross_97 (by decide) ?_
      exact v_iret 98 C rfl dX1_neighbourAcross_98 hf
    · refine v_iload_n 88 C dX1_neighbourAcross_88 rfl rfl ?_
      refine v_aload_n 89 C dX1_neighbourAcross_89 rfl rfl ?_
      refine v_getI (dum := 0) 90 C lk_X1_29 (hB 0 _ rfl) (by decide) rfl dX1_neighbourAcross_90 ?_
      refine v_iadd 93 C dX1_neighbourAcross_93 ?_
      refine v_goto (tgt := 98) 94 C dX1_neighbourAcross_94 (by decide) ?_
      exact v_iret 98 C rfl dX1_neighbourAcross_98 hf
  refine v_tabOut (tgt := 99) 16 C dX1_neighbourAcross_16 (by have g0 := lv_neT hn0 (show (0 : Int32).toInt = 0 from rfl); have g1 := lv_neT hn1 (show (1 : Int32).toInt = 1 from rfl); have g2 := lv_neT hn2 (show (2 : Int32).toInt = 2 from rfl); omega) (by decide) ?_
  refine v_iload 99 C dX1_neighbourAcross_99 rfl ?_
  refine v_if_le (tgt := 110) 101 C dX1_neighbourAcross_101 (by decide) hf (fun hf => ?_) (fun hf => ?_)
  · refine v_iconst (v := (-1)) 110 C dX1_neighbourAcross_110 (by decide) ?_
    exact v_iret 111 C rfl dX1_neighbourAcross_111 hf
  · refine v_iload_n 104 C dX1_neighbourAcross_104 rfl rfl ?_
    refine v_iconst (v := 1) 105 C dX1_neighbourAcross_105 (by decide) ?_
    refine v_isub 106 C dX1_neighbourAcross_106 ?_
    refine v_goto (tgt := 111) 107 C dX1_neighbourAcross_107 (by decide) ?_
    exact v_iret 111 C rfl dX1_neighbourAcross_111 hf
theorem m_X1_neighbourAcross {l : Launch} {E : En} {L : List Nat} (k : Nat) (hB : Bk L sh_Cut k) (x1 : Int32) (x2 : Int32) (σ : Sg) (o : Int32 × Sg) (hf : f_X1_neighbourAcross k x1 x2 σ = some o) : Mi l yX1_neighbourAcross cX1_neighbourAcross 5 (some .int) (1) E L [.ref (E.2.1 (k)), .int x1, .int x2] σ o :=
  Mi.of RX1 rfl (by decide) (Nat.le_of_ble_eq_true rfl) (fun q hq C => by subst hq; exact k_X1_neighbourAcross_b0 C k hB x1 x2 σ hf)
def f_X1_cutAnew_b147 (k : Nat) (r19 : Int32 → Sg → Rs) (r44 : Int32 → Int32 → Sg → Rs) (x3 : Int32) (x4 : Int32) (t1 : Int32) (t2 : Int32) (σ : Sg) : Rs := p_wr σ (k + 1) 64 t1 t2 (fun s1 => r44 x3 (x4 + 1) s1)
set_option maxRecDepth 100000 in
set_option maxHeartbeats 4000000 in
theorem k_X1_cutAnew_b147 {q : Mc} {E : En} {L : List Nat} {o : Int32 × Sg} (C : Cx q E L cX1_cutAnew 7 RX1 none (2)) (k : Nat) (hB : Bk L sh_Cut k) (r19 : Int32 → Sg → Rs) (hr19 : ∀ (x3 : Int32) (σ : Sg), r19 x3 σ = some o → Vx q E L 7 none o 19 [(0, .ref (E.2.1 (k))), (3, .int x3)] [] σ) (r44 : Int32 → Int32 → Sg → Rs) (hr44 : ∀ (x3 : Int32) (x4 : Int32) (σ : Sg), r44 x3 x4 σ = some o → Vx q E L 7 none o 44 [(0, .ref (E.2.1 (k))), (3, .int x3), (4, .int x4)] [] σ) (x3 : Int32) (x4 : Int32) (t1 : Int32) (t2 : Int32) (σ : Sg) (hf : f_X1_cutAnew_b147 k r19 r44 x3 x4 t1 t2 σ = some o) : Vx q E L 7 none o 147 [(0, .ref (E.2.1 (k))), (3, .int x3), (4, .int x4)] [.int t2, .int t1, .ref (E.2.1 (k + 1))] σ := by
  unfold f_X1_cutAnew_b147 at hf
  refine v_iast 147 C (hB 1 _ rfl) dX1_cutAnew_147 hf (fun s1 hf => ?_)
  refine v_iinc (v := x4 + 1) (lv' := [(0, .ref (E.2.1 (k))), (3, .int x3), (4, .int (x4 + 1))]) 148 C dX1_cutAnew_148 rfl (by rfl) (by decide) rfl rfl ?_
  refine v_goto (tgt := 44) 151 C dX1_cutAnew_151 (by decide) ?_
  exact Vx.lv [0, 1, 2] rfl (hr44 x3 (x4 + 1) s1 hf)
def f_X1_cutAnew_b116 (k : Nat) (r19 : Int32 → Sg → Rs) (r44 : Int32 → Int32 → Sg → Rs) (x3 : Int32) (x4 : Int32) (x5 : Int32) (x6 : Int32) (t1 : Int32) (t2 : Int32) (σ : Sg) : Rs := p_wr σ (k + 3) 16 t1 (nz t2) (fun s1 => if x5 = (-1) then (f_X1_cutAnew_b147 k r19 r44 x3 x4 ((x3 * 4) + x4) 0 s1) else (if x6 = 0 then (f_X1_cutAnew_b147 k r19 r44 x3 x4 ((x3 * 4) + x4) (-1) s1) else (f_X1_cutAnew_b147 k r19 r44 x3 x4 ((x3 * 4) + x4) 1 s1)))
set_option maxRecDepth 100000 in
set_option maxHeartbeats 4000000 in
theorem k_X1_cutAnew_b116 {q : Mc} {E : En} {L : List Nat} {o : Int32 × Sg} (C : Cx q E L cX1_cutAnew 7 RX1 none (2)) (k : Nat) (hB : Bk L sh_Cut k) (r19 : Int32 → Sg → Rs) (hr19 : ∀ (x3 : Int32) (σ : Sg), r19 x3 σ = some o → Vx q E L 7 none o 19 [(0, .ref (E.2.1 (k))), (3, .int x3)] [] σ) (r44 : Int32 → Int32 → Sg → Rs) (hr44 : ∀ (x3 : Int32) (x4 : Int32) (σ : Sg), r44 x3 x4 σ = some o → Vx q E L 7 none o 44 [(0, .ref (E.2.1 (k))), (3, .int x3), (4, .int x4)] [] σ) (x3 : Int32) (x4 : Int32) (x5 : Int32) (x6 : Int32) (t1 : Int32) (t2 : Int32) (σ : Sg) (hf : f_X1_cutAnew_b116 k r19 r44 x3 x4 x5 x6 t1 t2 σ = some o) : Vx q E L 7 none o 116 [(0, .ref (E.2.1 (k))), (3, .int x3), (4, .int x4), (5, .int x5), (6, .int x6)] [.int t2, .int t1, .ref (E.2.1 (k + 3))] σ := by
  unfold f_X1_cutAnew_b116 at hf
  refine v_zast 116 C (hB 3 _ rfl) dX1_cutAnew_116 hf (fun s1 hf => ?_)
  refine v_aload_n 117 C dX1_cutAnew_117 rfl rfl ?_
  refine v_getR 118 C lk_X1_9 (hB 0 _ rfl) (by decide) rfl dX1_cutAnew_118 ?_
  refine v_iload_n 121 C dX1_cutAnew_121 rfl rfl ?_
  refine v_iconst (v := 4) 122 C dX1_cutAnew_122 (by decide) ?_
  refine v_imul 123 C dX1_cutAnew_123 ?_
  refine v_iload 124 C dX1_cutAnew_124 rfl ?_
  refine v_iadd 126 C dX1_cutAnew_126 ?_
  refine v_iload 127 C dX1_cutAnew_127 rfl ?_
  refine v_iconst (v := (-1)) 129 C dX1_cutAnew_129 (by decide) ?_
  refine v_icmp_ne (tgt := 137) 130 C dX1_cutAnew_130 (by decide) hf (fun hf => ?_) (fun hf => ?_)
  · refine v_iload 137 C dX1_cutAnew_137 rfl ?_
    refine v_if_eq (tgt := 146) 139 C dX1_cutAnew_139 (by decide) hf (fun hf => ?_) (fun hf => ?_)
    · refine v_iconst (v := (-1)) 146 C dX1_cutAnew_146 (by decide) ?_
      exact Vx.lv [0, 1, 2] rfl (k_X1_cutAnew_b147 C k hB r19 hr19 r44 hr44 x3 x4 ((x3 * 4) + x4) (-1) s1 hf)
    · refine v_iconst (v := 1) 142 C dX1_cutAnew_142 (by decide) ?_
      refine v_goto (tgt := 147) 143 C dX1_cutAnew_143 (by decide) ?_
      exact Vx.lv [0, 1, 2] rfl (k_X1_cutAnew_b147 C k hB r19 hr19 r44 hr44 x3 x4 ((x3 * 4) + x4) 1 s1 hf)
  · refine v_iconst (v := 0) 133 C dX1_cutAnew_133 (by decide) ?_
    refine v_goto (tgt := 147) 134 C dX1_cutAnew_134 (by decide) ?_
    exact Vx.lv [0, 1, 2] rfl (k_X1_cutAnew_b147 C k hB r19 hr19 r44 hr44 x3 x4 ((x3 * 4) + x4) 0 s1 hf)
def f_X1_cutAnew_b111 (k : Nat) (r19 : Int32 → Sg → Rs) (r44 : Int32 → Int32 → Sg → Rs) (x3 : Int32) (x4 : Int32) (x5 : Int32) (x6 : Int32) (t1 : Int32) (σ : Sg) : Rs := f_X1_cutAnew_b116 k r19 r44 x3 x4 x5 x6 t1 1 σ
set_option maxRecDepth 100000 in
set_option maxHeartbeats 4000000 in
theorem k_X1_cutAnew_b111 {q : Mc} {E : En} {L : List Nat} {o : Int32 × Sg} (C : Cx q E L cX1_cutAnew 7 RX1 none (2)) (k : Nat) (hB : Bk L sh_Cut k) (r19 : Int32 → Sg → Rs) (hr19 : ∀ (x3 : Int32) (σ : Sg), r19 x3 σ = some o → Vx q E L 7 none o 19 [(0, .ref (E.2.1 (k))), (3, .int x3)] [] σ) (r44 : Int32 → Int32 → Sg → Rs) (hr44 : ∀ (x3 : Int32) (x4 : Int32) (σ : Sg), r44 x3 x4 σ = some o → Vx q E L 7 none o 44 [(0, .ref (E.2.1 (k))), (3, .int x3), (4, .int x4)] [] σ) (x3 : Int32) (x4 : Int32) (x5 : Int32) (x6 : Int32) (t1 : Int32) (σ : Sg) (hf : f_X1_cutAnew_b111 k r19 r44 x3 x4 x5 x6 t1 σ = some o) : Vx q E L 7 none o 111 [(0, .ref (E.2.1 (k))), (3, .int x3), (4, .int x4), (5, .int x5), (6, .int x6)] [.int t1, .ref (E.2.1 (k + 3))] σ := by
  unfold f_X1_cutAnew_b111 at hf
  refine v_iconst (v := 1) 111 C dX1_cutAnew_111 (by decide) ?_
  refine v_goto (tgt := 116) 112 C dX1_cutAnew_112 (by decide) ?_
  exact Vx.lv [0, 1, 2, 3, 4] rfl (k_X1_cutAnew_b116 C k hB r19 hr19 r44 hr44 x3 x4 x5 x6 t1 1 σ hf)
def f_X1_cutAnew_b76 (k : Nat) (r19 : Int32 → Sg → Rs) (r44 : Int32 → Int32 → Sg → Rs) (x3 : Int32) (x4 : Int32) (x5 : Int32) (t0 : Int32) (σ : Sg) : Rs := p_wr σ (k + 2) 64 ((x3 * 4) + x4) x5 (fun s1 => p_rd s1 (k + 3) 16 x3 (fun v2 => if v2 = 0 then (if x5 = (-1) then (f_X1_cutAnew_b111 k r19 r44 x3 x4 x5 t0 x3 s1) else (f_X1_cutAnew_b116 k r19 r44 x3 x4 x5 t0 x3 0 s1)) else (f_X1_cutAnew_b111 k r19 r44 x3 x4 x5 t0 x3 s1)))
set_option maxRecDepth 100000 in
set_option maxHeartbeats 4000000 in
theorem k_X1_cutAnew_b76 {q : Mc} {E : En} {L : List Nat} {o : Int32 × Sg} (C : Cx q E L cX1_cutAnew 7 RX1 none (2)) (k : Nat) (hB : Bk L sh_Cut k) (r19 : Int32 → Sg → Rs) (hr19 : ∀ (x3 : Int32) (σ : Sg), r19 x3 σ = some o → Vx q E L 7 none o 19 [(0, .ref (E.2.1 (k))), (3, .int x3)] [] σ) (r44 : Int32 → Int32 → Sg → Rs) (hr44 : ∀ (x3 : Int32) (x4 : Int32) (σ : Sg), r44 x3 x4 σ = some o → Vx q E L 7 none o 44 [(0, .ref (E.2.1 (k))), (3, .int x3), (4, .int x4)] [] σ) (x3 : Int32) (x4 : Int32) (x5 : Int32) (t0 : Int32) (σ : Sg) (hf : f_X1_cutAnew_b76 k r19 r44 x3 x4 x5 t0 σ = some o) : Vx q E L 7 none o 76 [(0, .ref (E.2.1 (k))), (3, .int x3), (4, .int x4), (5, .int x5)] [.int t0] σ := by
  unfold f_X1_cutAnew_b76 at hf
  refine v_istore (lv' := [(0, .ref (E.2.1 (k))), (3, .int x3), (4, .int x4), (5, .int x5), (6, .int t0)]) 76 C dX1_cutAnew_76 (by decide) rfl rfl ?_
  refine v_aload_n 78 C dX1_cutAnew_78 rfl rfl ?_
  refine v_getR 79 C lk_X1_15 (hB 0 _ rfl) (by decide) rfl dX1_cutAnew_79 ?_
  refine v_iload_n 82 C dX1_cutAnew_82 rfl rfl ?_
  refine v_iconst (v := 4) 83 C dX1_cutAnew_83 (by decide) ?_
  refine v_imul 84 C dX1_cutAnew_84 ?_
  refine v_iload 85 C dX1_cutAnew_85 rfl ?_
  refine v_iadd 87 C dX1_cutAnew_87 ?_
  refine v_iload 88 C dX1_cutAnew_88 rfl ?_
  refine v_iast 90 C (hB 2 _ rfl) dX1_cutAnew_90 hf (fun s1 hf => ?_)
  refine v_aload_n 91 C dX1_cutAnew_91 rfl rfl ?_
  refine v_getR 92 C lk_X1_18 (hB 0 _ rfl) (by decide) rfl dX1_cutAnew_92 ?_
  refine v_iload_n 95 C dX1_cutAnew_95 rfl rfl ?_
  refine v_aload_n 96 C dX1_cutAnew_96 rfl rfl ?_
  refine v_getR 97 C lk_X1_18 (hB 0 _ rfl) (by decide) rfl dX1_cutAnew_97 ?_
  refine v_iload_n 100 C dX1_cutAnew_100 rfl rfl ?_
  refine v_zald 101 C (hB 3 _ rfl) dX1_cutAnew_101 hf (fun v2 hf => ?_)
  refine v_if_ne (tgt := 111) 102 C dX1_cutAnew_102 (by decide) hf (fun hf => ?_) (fun hf => ?_)
  · exact Vx.lv [0, 1, 2, 3, 4] rfl (k_X1_cutAnew_b111 C k hB r19 hr19 r44 hr44 x3 x4 x5 t0 x3 s1 hf)
  · refine v_iload 105 C dX1_cutAnew_105 rfl ?_
    refine v_iconst (v := (-1)) 107 C dX1_cutAnew_107 (by decide) ?_
    refine v_icmp_ne (tgt := 115) 108 C dX1_cutAnew_108 (by decide) hf (fun hf => ?_) (fun hf => ?_)
    · refine v_iconst (v := 0) 115 C dX1_cutAnew_115 (by decide) ?_
      exact Vx.lv [0, 1, 2, 3, 4] rfl (k_X1_cutAnew_b116 C k hB r19 hr19 r44 hr44 x3 x4 x5 t0 x3 0 s1 hf)
    · exact Vx.lv [0, 1, 2, 3, 4] rfl (k_X1_cutAnew_b111 C k hB r19 hr19 r44 hr44 x3 x4 x5 t0 x3 s1 hf)
def f_X1_cutAnew_b71 (k : Nat) (r19 : Int32 → Sg → Rs) (r44 : Int32 → Int32 → Sg → Rs) (x3 : Int32) (x4 : Int32) (x5 : Int32) (σ : Sg) : Rs := f_X1_cutAnew_b76 k r19 r44 x3 x4 x5 1 σ
set_option maxRecDepth 100000 in
set_option maxHeartbeats 4000000 in
theorem k_X1_cutAnew_b71 {q : Mc} {E : En} {L : List Nat} {o : Int32 × Sg} (C : Cx q E L cX1_cutAnew 7 RX1 none (2)) (k : Nat) (hB : Bk L sh_Cut k) (r19 : Int32 → Sg → Rs) (hr19 : ∀ (x3 : Int32) (σ : Sg), r19 x3 σ = some o → Vx q E L 7 none o 19 [(0, .ref (E.2.1 (k))), (3, .int x3)] [] σ) (r44 : Int32 → Int32 → Sg → Rs) (hr44 : ∀ (x3 : Int32) (x4 : Int32) (σ : Sg), r44 x3 x4 σ = some o → Vx q E L 7 none o 44 [(0, .ref (E.2.1 (k))), (3, .int x3), (4, .int x4)] [] σ) (x3 : Int32) (x4 : Int32) (x5 : Int32) (σ : Sg) (hf : f_X1_cutAnew_b71 k r19 r44 x3 x4 x5 σ = some o) : Vx q E L 7 none o 71 [(0, .ref (E.2.1 (k))), (3, .int x3), (4, .int x4), (5, .int x5)] [] σ := by
  unfold f_X1_cutAnew_b71 at hf
  refine v_iconst (v := 1) 71 C dX1_cutAnew_71 (by decide) ?_
  refine v_goto (tgt := 76) 72 C dX1_cutAnew_72 (by decide) ?_
  exact Vx.lv [0, 1, 2, 3] rfl (k_X1_cutAnew_b76 C k hB r19 hr19 r44 hr44 x3 x4 x5 1 σ hf)
def f_X1_cutAnew_b44 (k : Nat) (r19 : Int32 → Sg → Rs) : Nat → Int32 → Int32 → Sg → Rs
  | 0, _, _, _ => none
  | n + 1, x3, x4, σ => if 4 ≤ x4 then (r19 (x3 + 1) σ) else (p_call (f_X1_neighbourAcross k x3 x4 σ) (fun v1 s2 => if x4 = 1 then (f_X1_cutAnew_b71 k r19 (f_X1_cutAnew_b44 k r19 n) x3 x4 v1 s2) else (if x4 = 2 then (f_X1_cutAnew_b71 k r19 (f_X1_cutAnew_b44 k r19 n) x3 x4 v1 s2) else (f_X1_cutAnew_b76 k r19 (f_X1_cutAnew_b44 k r19 n) x3 x4 v1 0 s2))))
set_option maxRecDepth 100000 in
set_option maxHeartbeats 4000000 in
theorem k_X1_cutAnew_b44 {q : Mc} {E : En} {L : List Nat} {o : Int32 × Sg} (C : Cx q E L cX1_cutAnew 7 RX1 none (2)) (k : Nat) (hB : Bk L sh_Cut k) (r19 : Int32 → Sg → Rs) (hr19 : ∀ (x3 : Int32) (σ : Sg), r19 x3 σ = some o → Vx q E L 7 none o 19 [(0, .ref (E.2.1 (k))), (3, .int x3)] [] σ) (n : Nat) : ∀ (x3 : Int32) (x4 : Int32) (σ : Sg), f_X1_cutAnew_b44 k r19 n x3 x4 σ = some o → Vx q E L 7 none o 44 [(0, .ref (E.2.1 (k))), (3, .int x3), (4, .int x4)] [] σ := by
  induction n with
  | zero => intro x3 x4 σ hf; cases (show (none : Rs) = some o from hf)
  | succ n ih =>
    intro x3 x4 σ hf
    rw [f_X1_cutAnew_b44] at hf
    refine v_iload 44 C dX1_cutAnew_44 rfl ?_
    refine v_iconst (v := 4) 46 C dX1_cutAnew_46 (by decide) ?_
    refine v_icmp_ge (tgt := 154) 47 C dX1_cutAnew_47 (by decide) hf (fun hf => ?_) (fun hf => ?_)
    · refine v_iinc (v := x3 + 1) (lv' := [(0, .ref (E.2.1 (k))), (3, .int (x3 + 1)), (4, .int x4)]) 154 C dX1_cutAnew_154 rfl (by rfl) (by decide) rfl rfl ?_
      refine v_goto (tgt := 19) 157 C dX1_cutAnew_157 (by decide) ?_
      exact Vx.lv [0, 1] rfl (hr19 (x3 + 1) σ hf)
    · refine v_aload_n 50 C dX1_cutAnew_50 rfl rfl ?_
      refine v_iload_n 51 C dX1_cutAnew_51 rfl rfl ?_
      refine v_iload 52 C dX1_cutAnew_52 rfl ?_
      refine v_callV (st := []) 54 C [.int x3, .int x4] lm_X1_35 ly_X1_neighbourAcross (hB 0 _ rfl) (by decide) dX1_cutAnew_54 rfl (by decide) rfl (Nat.le_of_ble_eq_true rfl) (fun o1 h1 => m_X1_neighbourAcross k hB x3 x4 σ o1 h1) hf (fun v1 s2 hf => ?_)
      refine v_istore (lv' := [(0, .ref (E.2.1 (k))), (3, .int x3), (4, .int x4), (5, .int v1)]) 57 C dX1_cutAnew_57 (by decide) rfl rfl ?_
      refine v_iload 59 C dX1_cutAnew_59 rfl ?_
      refine v_iconst (v := 1) 61 C dX1_cutAnew_61 (by decide) ?_
      refine v_icmp_eq (tgt := 71) 62 C dX1_cutAnew_62 (by decide) hf (fun hf => ?_) (fun hf => ?_)
      · exact Vx.lv [0, 1, 2, 3] rfl (k_X1_cutAnew_b71 C k hB r19 hr19 (f_X1_cutAnew_b44 k r19 n) ih x3 x4 v1 s2 hf)
      · refine v_iload 65 C dX1_cutAnew_65 rfl ?_
        refine v_iconst (v := 2) 67 C dX1_cutAnew_67 (by decide) ?_
        refine v_icmp_ne (tgt := 75) 68 C dX1_cutAnew_68 (by decide) hf (fun hf => ?_) (fun hf => ?_)
        · refine v_iconst (v := 0) 75 C dX1_cutAnew_75 (by decide) ?_
          exact Vx.lv [0, 1, 2, 3] rfl (k_X1_cutAnew_b76 C k hB r19 hr19 (f_X1_cutAnew_b44 k r19 n) ih x3 x4 v1 0 s2 hf)
        · exact Vx.lv [0, 1, 2, 3] rfl (k_X1_cutAnew_b71 C k hB r19 hr19 (f_X1_cutAnew_b44 k r19 n) ih x3 x4 v1 s2 hf)
def f_X1_cutAnew_b19 (k : Nat)  : Nat → Int32 → Sg → Rs
  | 0, _, _ => none
  | n + 1, x3, σ => if (σ (k) 2) ≤ x3 then (some (0, σ)) else (p_wr σ (k + 4) 16 x3 0 (fun s1 => p_wr s1 (k + 3) 16 x3 (nz 0) (fun s2 => f_X1_cutAnew_b44 k (f_X1_cutAnew_b19 k n) fu x3 0 s2)))
set_option maxRecDepth 100000 in
set_option maxHeartbeats 4000000 in
theorem k_X1_cutAnew_b19 {q : Mc} {E : En} {L : List Nat} {o : Int32 × Sg} (C : Cx q E L cX1_cutAnew 7 RX1 none (2)) (k : Nat) (hB : Bk L sh_Cut k) (n : Nat) : ∀ (x3 : Int32) (σ : Sg), f_X1_cutAnew_b19 k n x3 σ = some o → Vx q E L 7 none o 19 [(0, .ref (E.2.1 (k))), (3, .int x3)] [] σ := by
  induction n with
  | zero => intro x3 σ hf; cases (show (none : Rs) = some o from hf)
  | succ n ih =>
    intro x3 σ hf
    rw [f_X1_cutAnew_b19] at hf
    refine v_iload_n 19 C dX1_cutAnew_19 rfl rfl ?_
    refine v_aload_n 20 C dX1_cutAnew_20 rfl rfl ?_
    refine v_getI (dum := 0) 21 C lk_X1_32 (hB 0 _ rfl) (by decide) rfl dX1_cutAnew_21 ?_
    refine v_icmp_ge (tgt := 160) 24 C dX1_cutAnew_24 (by decide) hf (fun hf => ?_) (fun hf => ?_)
    · exact v_ret (r := 0) 160 C rfl dX1_cutAnew_160 hf
    · refine v_aload_n 27 C dX1_cutAnew_27 rfl rfl ?_
      refine v_getR 28 C lk_X1_22 (hB 0 _ rfl) (by decide) rfl dX1_cutAnew_28 ?_
      refine v_iload_n 31 C dX1_cutAnew_31 rfl rfl ?_
      refine v_iconst (v := 0) 32 C dX1_cutAnew_32 (by decide) ?_
      refine v_iast 33 C (hB 4 _ rfl) dX1_cutAnew_33 hf (fun s1 hf => ?_)
      refine v_aload_n 34 C dX1_cutAnew_34 rfl rfl ?_
      refine v_getR 35 C lk_X1_18 (hB 0 _ rfl) (by decide) rfl dX1_cutAnew_35 ?_
      refine v_iload_n 38 C dX1_cutAnew_38 rfl rfl ?_
      refine v_iconst (v := 0) 39 C dX1_cutAnew_39 (by decide) ?_
      refine v_zast 40 C (hB 3 _ rfl) dX1_cutAnew_40 hf (fun s2 hf => ?_)
      refine v_iconst (v := 0) 41 C dX1_cutAnew_41 (by decide) ?_
      refine v_istore (lv' := [(0, .ref (E.2.1 (k))), (3, .int x3), (4, .int 0)]) 42 C dX1_cutAnew_42 (by decide) rfl rfl ?_
      exact Vx.lv [0, 1, 2] rfl (k_X1_cutAnew_b44 C k hB (f_X1_cutAnew_b19 k n) ih fu x3 0 s2 hf)
def f_X1_cutAnew (k : Nat) (x1 : Int32) (x2 : Int32) (σ : Sg) : Rs := p_put σ (k) 0 x1 (fun s1 => p_put s1 (k) 1 x2 (fun s2 => p_put s2 (k) 2 (x1 * x2) (fun s3 => f_X1_cutAnew_b19 k fu 0 s3)))
set_option maxRecDepth 100000 in
set_option maxHeartbeats 4000000 in
theorem k_X1_cutAnew_b0 {q : Mc} {E : En} {L : List Nat} {o : Int32 × Sg} (C : Cx q E L cX1_cutAnew 7 RX1 none (2)) (k : Nat) (hB : Bk L sh_Cut k) (x1 : Int32) (x2 : Int32) (σ : Sg) (hf : f_X1_cutAnew k x1 x2 σ = some o) : Vx q E L 7 none o 0 [(0, .ref (E.2.1 (k))), (1, .int x1), (2, .int x2)] [] σ := by
  unfold f_X1_cutAnew at hf
  refine v_aload_n 0 C dX1_cutAnew_0 rfl rfl ?_
  refine v_iload_n 1 C dX1_cutAnew_1 rfl rfl ?_
  refine v_putI 2 C lp_X1_25 (hB 0 _ rfl) (by decide) rfl dX1_cutAnew_2 hf (fun s1 hf => ?_)
  refine v_aload_n 5 C dX1_cutAnew_5 rfl rfl ?_
  refine v_iload_n 6 C dX1_cutAnew_6 rfl rfl ?_
  refine v_putI 7 C lp_X1_29 (hB 0 _ rfl) (by decide) rfl dX1_cutAnew_7 hf (fun s2 hf => ?_)
  refine v_aload_n 10 C dX1_cutAnew_10 rfl rfl ?_
  refine v_iload_n 11 C dX1_cutAnew_11 rfl rfl ?_
  refine v_iload_n 12 C dX1_cutAnew_12 rfl rfl ?_
  refine v_imul 13 C dX1_cutAnew_13 ?_
  refine v_putI 14 C lp_X1_32 (hB 0 _ rfl) (by decide) rfl dX1_cutAnew_14 hf (fun s3 hf => ?_)
  refine v_iconst (v := 0) 17 C dX1_cutAnew_17 (by decide) ?_
  refine v_istore_n (lv' := [(0, .ref (E.2.1 (k))), (1, .int x1), (2, .int x2), (3, .int 0)]) 18 C dX1_cutAnew_18 rfl (by decide) rfl rfl ?_
  exact Vx.lv [0, 3] rfl (k_X1_cutAnew_b19 C k hB fu 0 s3 hf)
theorem m_X1_cutAnew {l : Launch} {E : En} {L : List Nat} (k : Nat) (hB : Bk L sh_Cut k) (x1 : Int32) (x2 : Int32) (σ : Sg) (o : Int32 × Sg) (hf : f_X1_cutAnew k x1 x2 σ = some o) : Mi l yX1_cutAnew cX1_cutAnew 7 none (2) E L [.ref (E.2.1 (k)), .int x1, .int x2] σ o :=
  Mi.of RX1 rfl (by decide) (Nat.le_of_ble_eq_true rfl) (fun q hq C => by subst hq; exact k_X1_cutAnew_b0 C k hB x1 x2 σ hf)
def f_X1_beside (k : Nat) (x1 : Int32) (x2 : Int32) (σ : Sg) : Rs := p_rd σ (k + 2) 64 ((x1 * 4) + x2) (fun v1 => some (v1, σ))
set_option maxRecDepth 100000 in
set_option maxHeartbeats 4000000 in
theorem k_X1_beside_b0 {q : Mc} {E : En} {L : List Nat} {o : Int32 × Sg} (C : Cx q E L cX1_beside 3 RX1 (some .int) (1)) (k : Nat) (hB : Bk L sh_Cut k) (x1 : Int32) (x2 : Int32) (σ : Sg) (hf : f_X1_beside k x1 x2 σ = some o) : Vx q E L 3 (some .int) o 0 [(0, .ref (E.2.1 (k))), (1, .int x1), (2, .int x2)] [] σ := by
  unfold f_X1_beside at hf
  refine v_aload_n 0 C dX1_beside_0 rfl rfl ?_
  refine v_getR 1 C lk_X1_15 (hB 0 _ rfl) (by decide) rfl dX1_beside_1 ?_
  refine v_iload_n 4 C dX1_beside_4 rfl rfl ?_
  refine v_iconst (v := 4) 5 C dX1_beside_5 (by decide) ?_
  refine v_imul 6 C dX1_beside_6 ?_
  refine v_iload_n 7 C dX1_beside_7 rfl rfl ?_
  refine v_iadd 8 C dX1_beside_8 ?_
  refine v_iald 9 C (hB 2 _ rfl) dX1_beside_9 hf (fun v1 hf => ?_)
  exact v_iret 10 C rfl dX1_beside_10 hf
theorem m_X1_beside {l : Launch} {E : En} {L : List Nat} (k : Nat) (hB : Bk L sh_Cut k) (x1 : Int32) (x2 : Int32) (σ : Sg) (o : Int32 × Sg) (hf : f_X1_beside k x1 x2 σ = some o) : Mi l yX1_beside cX1_beside 3 (some .int) (1) E L [.ref (E.2.1 (k)), .int x1, .int x2] σ o :=
  Mi.of RX1 rfl (by decide) (Nat.le_of_ble_eq_true rfl) (fun q hq C => by subst hq; exact k_X1_beside_b0 C k hB x1 x2 σ hf)
def f_X1_sideOf (k : Nat) (x1 : Int32) (x2 : Int32) (x3 : Int32) (σ : Sg) : Rs := p_rd σ (k + 1) 64 ((x1 * 4) + (((x3 + 4) - x2) - ((x3 + 4) - x2) / 4 * 4)) (fun v1 => some (v1, σ))
set_option maxRecDepth 100000 in
set_option maxHeartbeats 4000000 in
theorem k_X1_sideOf_b0 {q : Mc} {E : En} {L : List Nat} {o : Int32 × Sg} (C : Cx q E L cX1_sideOf 4 RX1 (some .int) (1)) (k : Nat) (hB : Bk L sh_Cut k) (x1 : Int32) (x2 : Int32) (x3 : Int32) (σ : Sg) (hf : f_X1_sideOf k x1 x2 x3 σ = some o) : Vx q E L 4 (some .int) o 0 [(0, .ref (E.2.1 (k))), (1, .int x1), (2, .int x2), (3, .int x3)] [] σ := by
  unfold f_X1_sideOf at hf
  refine v_aload_n 0 C dX1_sideOf_0 rfl rfl ?_
  refine v_getR 1 C lk_X1_9 (hB 0 _ rfl) (by decide) rfl dX1_sideOf_1 ?_
  refine v_iload_n 4 C dX1_sideOf_4 rfl rfl ?_
  refine v_iconst (v := 4) 5 C dX1_sideOf_5 (by decide) ?_
  refine v_imul 6 C dX1_sideOf_6 ?_
  refine v_iload_n 7 C dX1_sideOf_7 rfl rfl ?_
  refine v_iconst (v := 4) 8 C dX1_sideOf_8 (by decide) ?_
  refine v_iadd 9 C dX1_sideOf_9 ?_
  refine v_iload_n 10 C dX1_sideOf_10 rfl rfl ?_
  refine v_isub 11 C dX1_sideOf_11 ?_
  refine v_iconst (v := 4) 12 C dX1_sideOf_12 (by decide) ?_
  refine v_irem_c 13 C dX1_sideOf_13 (by decide) ?_
  refine v_iadd 14 C dX1_sideOf_14 ?_
  refine v_iald 15 C (hB 1 _ rfl) dX1_sideOf_15 hf (fun v1 hf => ?_)
  exact v_iret 16 C rfl dX1_sideOf_16 hf
theorem m_X1_sideOf {l : Launch} {E : En} {L : List Nat} (k : Nat) (hB : Bk L sh_Cut k) (x1 : Int32) (x2 : Int32) (x3 : Int32) (σ : Sg) (o : Int32 × Sg) (hf : f_X1_sideOf k x1 x2 x3 σ = some o) : Mi l yX1_sideOf cX1_sideOf 4 (some .int) (1) E L [.ref (E.2.1 (k)), .int x1, .int x2, .int x3] σ o :=
  Mi.of RX1 rfl (by decide) (Nat.le_of_ble_eq_true rfl) (fun q hq C => by subst hq; exact k_X1_sideOf_b0 C k hB x1 x2 x3 σ hf)
def f_X1_setEdge (k : Nat) (x1 : Int32) (x2 : Int32) (x3 : Int32) (σ : Sg) : Rs := p_wr σ (k + 1) 64 ((x1 * 4) + x2) x3 (fun s1 => p_call (f_X1_beside k x1 x2 s1) (fun v2 s3 => p_wr s3 (k + 1) 64 ((v2 * 4) + ((x2 + 2) - (x2 + 2) / 4 * 4)) (-x3) (fun s4 => some (0, s4))))
set_option maxRecDepth 100000 in
set_option maxHeartbeats 4000000 in
theorem k_X1_setEdge_b0 {q : Mc} {E : En} {L : List Nat} {o : Int32 × Sg} (C : Cx q E L cX1_setEdge 4 RX1 none (2)) (k : Nat) (hB : Bk L sh_Cut k) (x1 : Int32) (x2 : Int32) (x3 : Int32) (σ : Sg) (hf : f_X1_setEdge k x1 x2 x3 σ = some o) : Vx q E L 4 none o 0 [(0, .ref (E.2.1 (k))), (1, .int x1), (2, .int x2), (3, .int x3)] [] σ := by
  unfold f_X1_setEdge at hf
  refine v_aload_n 0 C dX1_setEdge_0 rfl rfl ?_
  refine v_getR 1 C lk_X1_9 (hB 0 _ rfl) (by decide) rfl dX1_setEdge_1 ?_
  refine v_iload_n 4 C dX1_setEdge_4 rfl rfl ?_
  refine v_iconst (v := 4) 5 C dX1_setEdge_5 (by decide) ?_
  refine v_imul 6 C dX1_setEdge_6 ?_
  refine v_iload_n 7 C dX1_setEdge_7 rfl rfl ?_
  refine v_iadd 8 C dX1_setEdge_8 ?_
  refine v_iload_n 9 C dX1_setEdge_9 rfl rfl ?_
  refine v_iast 10 C (hB 1 _ rfl) dX1_setEdge_10 hf (fun s1 hf => ?_)
  refine v_aload_n 11 C dX1_setEdge_11 rfl rfl ?_
  refine v_getR 12 C lk_X1_9 (hB 0 _ rfl) (by decide) rfl dX1_setEdge_12 ?_
  refine v_aload_n 15 C dX1_setEdge_15 rfl rfl ?_
  refine v_iload_n 16 C dX1_setEdge_16 rfl rfl ?_
  refine v_iload_n 17 C dX1_setEdge_17 rfl rfl ?_
  refine v_callV (st := [.ref (E.2.1 (k + 1))]) 18 C [.int x1, .int x2] lm_X1_39 ly_X1_beside (hB 0 _ rfl) (by decide) dX1_setEdge_18 rfl (by decide) rfl (Nat.le_of_ble_eq_true rfl) (fun o1 h1 => m_X1_beside k hB x1 x2 s1 o1 h1) hf (fun v2 s3 hf => ?_)
  refine v_iconst (v := 4) 21 C dX1_setEdge_21 (by decide) ?_
  refine v_imul 22 C dX1_setEdge_22 ?_
  refine v_iload_n 23 C dX1_setEdge_23 rfl rfl ?_
  refine v_iconst (v := 2) 24 C dX1_setEdge_24 (by decide) ?_
  refine v_iadd 25 C dX1_setEdge_25 ?_
  refine v_iconst (v := 4) 26 C dX1_setEdge_26 (by decide) ?_
  refine v_irem_c 27 C dX1_setEdge_27 (by decide) ?_
  refine v_iadd 28 C dX1_setEdge_28 ?_
  refine v_iload_n 29 C dX1_setEdge_29 rfl rfl ?_
  refine v_ineg 30 C dX1_setEdge_30 ?_
  refine v_iast 31 C (hB 1 _ rfl) dX1_setEdge_31 hf (fun s4 hf => ?_)
  exact v_ret (r := 0) 32 C rfl dX1_setEdge_32 hf
theorem m_X1_setEdge {l : Launch} {E : En} {L : List Nat} (k : Nat) (hB : Bk L sh_Cut k) (x1 : Int32) (x2 : Int32) (x3 : Int32) (σ : Sg) (o : Int32 × Sg) (hf : f_X1_setEdge k x1 x2 x3 σ = some o) : Mi l yX1_setEdge cX1_setEdge 4 none (2) E L [.ref (E.2.1 (k)), .int x1, .int x2, .int x3] σ o :=
  Mi.of RX1 rfl (by decide) (Nat.le_of_ble_eq_true rfl) (fun q hq C => by subst hq; exact k_X1_setEdge_b0 C k hB x1 x2 x3 σ hf)
def f_X1_innerEdges (k : Nat) (σ : Sg) : Rs := some (((σ (k) 0) * ((σ (k) 1) - 1)) + ((σ (k) 1) * ((σ (k) 0) - 1)), σ)
set_option maxRecDepth 100000 in
set_option maxHeartbeats 4000000 in
theorem k_X1_innerEdges_b0 {q : Mc} {E : En} {L : List Nat} {o : Int32 × Sg} (C : Cx q E L cX1_innerEdges 1 RX1 (some .int) (1)) (k : Nat) (hB : Bk L sh_Cut k) (σ : Sg) (hf : f_X1_innerEdges k σ = some o) : Vx q E L 1 (some .int) o 0 [(0, .ref (E.2.1 (k)))] [] σ := by
  unfold f_X1_innerEdges at hf
  refine v_aload_n 0 C dX1_innerEdges_0 rfl rfl ?_
  refine v_getI (dum := 0) 1 C lk_X1_25 (hB 0 _ rfl) (by decide) rfl dX1_innerEdges_1 ?_
  refine v_aload_n 4 C dX1_innerEdges_4 rfl rfl ?_
  refine v_getI (dum := 0) 5 C lk_X1_29 (hB 0 _ rfl) (by decide) rfl dX1_innerEdges_5 ?_
  refine v_iconst (v := 1) 8 C dX1_innerEdges_8 (by decide) ?_
  refine v_isub 9 C dX1_innerEdges_9 ?_
  refine v_imul 10 C dX1_innerEdges_10 ?_
  refine v_aload_n 11 C dX1_innerEdges_11 rfl rfl ?_
  refine v_getI (dum := 0) 12 C lk_X1_29 (hB 0 _ rfl) (by decide) rfl dX1_innerEdges_12 ?_
  refine v_aload_n 15 C dX1_innerEdges_15 rfl rfl ?_
  refine v_getI (dum := 0) 16 C lk_X1_25 (hB 0 _ rfl) (by decide) rfl dX1_innerEdges_16 ?_
  refine v_iconst (v := 1) 19 C dX1_innerEdges_19 (by decide) ?_
  refine v_isub 20 C dX1_innerEdges_20 ?_
  refine v_imul 21 C dX1_innerEdges_21 ?_
  refine v_iadd 22 C dX1_innerEdges_22 ?_
  exact v_iret 23 C rfl dX1_innerEdges_23 hf
theorem m_X1_innerEdges {l : Launch} {E : En} {L : List Nat} (k : Nat) (hB : Bk L sh_Cut k) (σ : Sg) (o : Int32 × Sg) (hf : f_X1_innerEdges k σ = some o) : Mi l yX1_innerEdges cX1_innerEdges 1 (some .int) (1) E L [.ref (E.2.1 (k))] σ o :=
  Mi.of RX1 rfl (by decide) (Nat.le_of_ble_eq_true rfl) (fun q hq C => by subst hq; exact k_X1_innerEdges_b0 C k hB  σ hf)
def f_X1_nubsOf_b25 (k : Nat) (r4 : Int32 → Int32 → Int32 → Sg → Rs) (x1 : Int32) (x2 : Int32) (x3 : Int32) (σ : Sg) : Rs := r4 x1 x2 (x3 + 1) σ
set_option maxRecDepth 100000 in
set_option maxHeartbeats 4000000 in
theorem k_X1_nubsOf_b25 {q : Mc} {E : En} {L : List Nat} {o : Int32 × Sg} (C : Cx q E L cX1_nubsOf 4 RX1 (some .int) (1)) (k : Nat) (hB : Bk L sh_Cut k) (r4 : Int32 → Int32 → Int32 → Sg → Rs) (hr4 : ∀ (x1 : Int32) (x2 : Int32) (x3 : Int32) (σ : Sg), r4 x1 x2 x3 σ = some o → Vx q E L 4 (some .int) o 4 [(0, .ref (E.2.1 (k))), (1, .int x1), (2, .int x2), (3, .int x3)] [] σ) (x1 : Int32) (x2 : Int32) (x3 : Int32) (σ : Sg) (hf : f_X1_nubsOf_b25 k r4 x1 x2 x3 σ = some o) : Vx q E L 4 (some .int) o 25 [(0, .ref (E.2.1 (k))), (1, .int x1), (2, .int x2), (3, .int x3)] [] σ := by
  unfold f_X1_nubsOf_b25 at hf
  refine v_iinc (v := x3 + 1) (lv' := [(0, .ref (E.2.1 (k))), (1, .int x1), (2, .int x2), (3, .int (x3 + 1))]) 25 C dX1_nubsOf_25 rfl (by rfl) (by decide) rfl rfl ?_
  refine v_goto (tgt := 4) 28 C dX1_nubsOf_28 (by decide) ?_
  exact Vx.lv [0, 1, 2, 3] rfl (hr4 x1 x2 (x3 + 1) σ hf)
def f_X1_nubsOf_b4 (k : Nat)  : Nat → Int32 → Int32 → Int32 → Sg → Rs
  | 0, _, _, _, _ => none
  | n + 1, x1, x2, x3, σ => if 4 ≤ x3 then (some (x2, σ)) else (p_rd σ (k + 1) 64 ((x1 * 4) + x3) (fun v1 => if v1 ≤ 0 then (f_X1_nubsOf_b25 k (f_X1_nubsOf_b4 k n) x1 x2 x3 σ) else (f_X1_nubsOf_b25 k (f_X1_nubsOf_b4 k n) x1 (x2 + 1) x3 σ)))
set_option maxRecDepth 100000 in
set_option maxHeartbeats 4000000 in
theorem k_X1_nubsOf_b4 {q : Mc} {E : En} {L : List Nat} {o : Int32 × Sg} (C : Cx q E L cX1_nubsOf 4 RX1 (some .int) (1)) (k : Nat) (hB : Bk L sh_Cut k) (n : Nat) : ∀ (x1 : Int32) (x2 : Int32) (x3 : Int32) (σ : Sg), f_X1_nubsOf_b4 k n x1 x2 x3 σ = some o → Vx q E L 4 (some .int) o 4 [(0, .ref (E.2.1 (k))), (1, .int x1), (2, .int x2), (3, .int x3)] [] σ := by
  induction n with
  | zero => intro x1 x2 x3 σ hf; cases (show (none : Rs) = some o from hf)
  | succ n ih =>
    intro x1 x2 x3 σ hf
    rw [f_X1_nubsOf_b4] at hf
    refine v_iload_n 4 C dX1_nubsOf_4 rfl rfl ?_
    refine v_iconst (v := 4) 5 C dX1_nubsOf_5 (by decide) ?_
    refine v_icmp_ge (tgt := 31) 6 C dX1_nubsOf_6 (by decide) hf (fun hf => ?_) (fun hf => ?_)
    · refine v_iload_n 31 C dX1_nubsOf_31 rfl rfl ?_
      exact v_iret 32 C rfl dX1_nubsOf_32 hf
    · refine v_aload_n 9 C dX1_nubsOf_9 rfl rfl ?_
      refine v_getR 10 C lk_X1_9 (hB 0 _ rfl) (by decide) rfl dX1_nubsOf_10 ?_
      refine v_iload_n 13 C dX1_nubsOf_13 rfl rfl ?_
      refine v_iconst (v := 4) 14 C dX1_nubsOf_14 (by decide) ?_
      refine v_imul 15 C dX1_nubsOf_15 ?_
      refine v_iload_n 16 C dX1_nubsOf_16 rfl rfl ?_
      refine v_iadd 17 C dX1_nubsOf_17 ?_
      refine v_iald 18 C (hB 1 _ rfl) dX1_nubsOf_18 hf (fun v1 hf => ?_)
      refine v_if_le (tgt := 25) 19 C dX1_nubsOf_19 (by decide) hf (fun hf => ?_) (fun hf => ?_)
      · exact Vx.lv [0, 1, 2, 3] rfl (k_X1_nubsOf_b25 C k hB (f_X1_nubsOf_b4 k n) ih x1 x2 x3 σ hf)
      · refine v_iinc (v := x2 + 1) (lv' := [(0, .ref (E.2.1 (k))), (1, .int x1), (2, .int (x2 + 1)), (3, .int x3)]) 22 C dX1_nubsOf_22 rfl (by rfl) (by decide) rfl rfl ?_
        exact Vx.lv [0, 1, 2, 3] rfl (k_X1_nubsOf_b25 C k hB (f_X1_nubsOf_b4 k n) ih x1 (x2 + 1) x3 σ hf)
def f_X1_nubsOf (k : Nat) (x1 : Int32) (σ : Sg) : Rs := f_X1_nubsOf_b4 k fu x1 0 0 σ
set_option maxRecDepth 100000 in
set_option maxHeartbeats 4000000 in
theorem k_X1_nubsOf_b0 {q : Mc} {E : En} {L : List Nat} {o : Int32 × Sg} (C : Cx q E L cX1_nubsOf 4 RX1 (some .int) (1)) (k : Nat) (hB : Bk L sh_Cut k) (x1 : Int32) (σ : Sg) (hf : f_X1_nubsOf k x1 σ = some o) : Vx q E L 4 (some .int) o 0 [(0, .ref (E.2.1 (k))), (1, .int x1)] [] σ := by
  unfold f_X1_nubsOf at hf
  refine v_iconst (v := 0) 0 C dX1_nubsOf_0 (by decide) ?_
  refine v_istore_n (lv' := [(0, .ref (E.2.1 (k))), (1, .int x1), (2, .int 0)]) 1 C dX1_nubsOf_1 rfl (by decide) rfl rfl ?_
  refine v_iconst (v := 0) 2 C dX1_nubsOf_2 (by decide) ?_
  refine v_istore_n (lv' := [(0, .ref (E.2.1 (k))), (1, .int x1), (2, .int 0), (3, .int 0)]) 3 C dX1_nubsOf_3 rfl (by decide) rfl rfl ?_
  exact Vx.lv [0, 1, 2, 3] rfl (k_X1_nubsOf_b4 C k hB fu x1 0 0 σ hf)
theorem m_X1_nubsOf {l : Launch} {E : En} {L : List Nat} (k : Nat) (hB : Bk L sh_Cut k) (x1 : Int32) (σ : Sg) (o : Int32 × Sg) (hf : f_X1_nubsOf k x1 σ = some o) : Mi l yX1_nubsOf cX1_nubsOf 4 (some .int) (1) E L [.ref (E.2.1 (k)), .int x1] σ o :=
  Mi.of RX1 rfl (by decide) (Nat.le_of_ble_eq_true rfl) (fun q hq C => by subst hq; exact k_X1_nubsOf_b0 C k hB x1 σ hf)
def f_X1_codeOf_b5 (k : Nat)  : Nat → Int32 → Int32 → Int32 → Int32 → Sg → Rs
  | 0, _, _, _, _, _ => none
  | n + 1, x1, x2, x3, x4, σ => if 4 ≤ x4 then (some (x3, σ)) else (p_call (f_X1_sideOf k x1 x2 x4 σ) (fun v1 s2 => f_X1_codeOf_b5 k n x1 x2 (((x3 * 19) + v1) + 9) (x4 + 1) s2))
set_option maxRecDepth 100000 in
set_option maxHeartbeats 4000000 in
theorem k_X1_codeOf_b5 {q : Mc} {E : En} {L : List Nat} {o : Int32 × Sg} (C : Cx q E L cX1_codeOf 5 RX1 (some .int) (2)) (k : Nat) (hB : Bk L sh_Cut k) (n : Nat) : ∀ (x1 : Int32) (x2 : Int32) (x3 : Int32) (x4 : Int32) (σ : Sg), f_X1_codeOf_b5 k n x1 x2 x3 x4 σ = some o → Vx q E L 5 (some .int) o 5 [(0, .ref (E.2.1 (k))), (1, .int x1), (2, .int x2), (3, .int x3), (4, .int x4)] [] σ := by
  induction n with
  | zero => intro x1 x2 x3 x4 σ hf; cases (show (none : Rs) = some o from hf)
  | succ n ih =>
    intro x1 x2 x3 x4 σ hf
    rw [f_X1_codeOf_b5] at hf
    refine v_iload 5 C dX1_codeOf_5 rfl ?_
    refine v_iconst (v := 4) 7 C dX1_codeOf_7 (by decide) ?_
    refine v_icmp_ge (tgt := 34) 8 C dX1_codeOf_8 (by decide) hf (fun hf => ?_) (fun hf => ?_)
    · refine v_iload_n 34 C dX1_codeOf_34 rfl rfl ?_
      exact v_iret 35 C rfl dX1_codeOf_35 hf
    · refine v_iload_n 11 C dX1_codeOf_11 rfl rfl ?_
      refine v_bipush (v := 19) 12 C dX1_codeOf_12 (by decide) ?_
      refine v_imul 14 C dX1_codeOf_14 ?_
      refine v_aload_n 15 C dX1_codeOf_15 rfl rfl ?_
      refine v_iload_n 16 C dX1_codeOf_16 rfl rfl ?_
      refine v_iload_n 17 C dX1_codeOf_17 rfl rfl ?_
      refine v_iload 18 C dX1_codeOf_18 rfl ?_
      refine v_callV (st := [.int (x3 * 19)]) 20 C [.int x1, .int x2, .int x4] lm_X1_42 ly_X1_sideOf (hB 0 _ rfl) (by decide) dX1_codeOf_20 rfl (by decide) rfl (Nat.le_of_ble_eq_true rfl) (fun o1 h1 => m_X1_sideOf k hB x1 x2 x4 σ o1 h1) hf (fun v1 s2 hf => ?_)
      refine v_iadd 23 C dX1_codeOf_23 ?_
      refine v_bipush (v := 9) 24 C dX1_codeOf_24 (by decide) ?_
      refine v_iadd 26 C dX1_codeOf_26 ?_
      refine v_istore_n (lv' := [(0, .ref (E.2.1 (k))), (1, .int x1), (2, .int x2), (3, .int (((x3 * 19) + v1) + 9)), (4, .int x4)]) 27 C dX1_codeOf_27 rfl (by decide) rfl rfl ?_
      refine v_iinc (v := x4 + 1) (lv' := [(0, .ref (E.2.1 (k))), (1, .int x1), (2, .int x2), (3, .int (((x3 * 19) + v1) + 9)), (4, .int (x4 + 1))]) 28 C dX1_codeOf_28 rfl (by rfl) (by decide) rfl rfl ?_
      refine v_goto (tgt := 5) 31 C dX1_codeOf_31 (by decide) ?_
      exact Vx.lv [0, 1, 2, 3, 4] rfl (ih x1 x2 (((x3 * 19) + v1) + 9) (x4 + 1) s2 hf)
def f_X1_codeOf (k : Nat) (x1 : Int32) (x2 : Int32) (σ : Sg) : Rs := f_X1_codeOf_b5 k fu x1 x2 0 0 σ
set_option maxRecDepth 100000 in
set_option maxHeartbeats 4000000 in
theorem k_X1_codeOf_b0 {q : Mc} {E : En} {L : List Nat} {o : Int32 × Sg} (C : Cx q E L cX1_codeOf 5 RX1 (some .int) (2)) (k : Nat) (hB : Bk L sh_Cut k) (x1 : Int32) (x2 : Int32) (σ : Sg) (hf : f_X1_codeOf k x1 x2 σ = some o) : Vx q E L 5 (some .int) o 0 [(0, .ref (E.2.1 (k))), (1, .int x1), (2, .int x2)] [] σ := by
  unfold f_X1_codeOf at hf
  refine v_iconst (v := 0) 0 C dX1_codeOf_0 (by decide) ?_
  refine v_istore_n (lv' := [(0, .ref (E.2.1 (k))), (1, .int x1), (2, .int x2), (3, .int 0)]) 1 C dX1_codeOf_1 rfl (by decide) rfl rfl ?_
  refine v_iconst (v := 0) 2 C dX1_codeOf_2 (by decide) ?_
  refine v_istore (lv' := [(0, .ref (E.2.1 (k))), (1, .int x1), (2, .int x2), (3, .int 0), (4, .int 0)]) 3 C dX1_codeOf_3 (by decide) rfl rfl ?_
  exact Vx.lv [0, 1, 2, 3, 4] rfl (k_X1_codeOf_b5 C k hB fu x1 x2 0 0 σ hf)
theorem m_X1_codeOf {l : Launch} {E : En} {L : List Nat} (k : Nat) (hB : Bk L sh_Cut k) (x1 : Int32) (x2 : Int32) (σ : Sg) (o : Int32 × Sg) (hf : f_X1_codeOf k x1 x2 σ = some o) : Mi l yX1_codeOf cX1_codeOf 5 (some .int) (2) E L [.ref (E.2.1 (k)), .int x1, .int x2] σ o :=
  Mi.of RX1 rfl (by decide) (Nat.le_of_ble_eq_true rfl) (fun q hq C => by subst hq; exact k_X1_codeOf_b0 C k hB x1 x2 σ hf)
def f_X1_suitsRim_b41 (k : Nat) (r3 : Int32 → Int32 → Int32 → Int32 → Sg → Rs) (x1 : Int32) (x2 : Int32) (x3 : Int32) (x4 : Int32) (t0 : Int32) (t1 : Int32) (σ : Sg) : Rs := if t0 = t1 then (r3 x1 x2 x3 (x4 + 1) σ) else (some (0, σ))
set_option maxRecDepth 100000 in
set_option maxHeartbeats 4000000 in
theorem k_X1_suitsRim_b41 {q : Mc} {E : En} {L : List Nat} {o : Int32 × Sg} (C : Cx q E L cX1_suitsRim 5 RX1 (some .boolean) (2)) (k : Nat) (hB : Bk L sh_Cut k) (r3 : Int32 → Int32 → Int32 → Int32 → Sg → Rs) (hr3 : ∀ (x1 : Int32) (x2 : Int32) (x3 : Int32) (x4 : Int32) (σ : Sg), r3 x1 x2 x3 x4 σ = some o → Vx q E L 5 (some .boolean) o 3 [(0, .ref (E.2.1 (k))), (1, .int x1), (2, .int x2), (3, .int x3), (4, .int x4)] [] σ) (x1 : Int32) (x2 : Int32) (x3 : Int32) (x4 : Int32) (t0 : Int32) (t1 : Int32) (σ : Sg) (hf : f_X1_suitsRim_b41 k r3 x1 x2 x3 x4 t0 t1 σ = some o) : Vx q E L 5 (some .boolean) o 41 [(0, .ref (E.2.1 (k))), (1, .int x1), (2, .int x2), (3, .int x3), (4, .int x4)] [.int t1, .int t0] σ := by
  unfold f_X1_suitsRim_b41 at hf
  refine v_icmp_eq (tgt := 46) 41 C dX1_suitsRim_41 (by decide) hf (fun hf => ?_) (fun hf => ?_)
  · refine v_iinc (v := x4 + 1) (lv' := [(0, .ref (E.2.1 (k))), (1, .int x1), (2, .int x2), (3, .int x3), (4, .int (x4 + 1))]) 46 C dX1_suitsRim_46 rfl (by rfl) (by decide) rfl rfl ?_
    refine v_goto (tgt := 3) 49 C dX1_suitsRim_49 (by decide) ?_
    exact Vx.lv [0, 1, 2, 3, 4] rfl (hr3 x1 x2 x3 (x4 + 1) σ hf)
  · refine v_iconst (v := 0) 44 C dX1_suitsRim_44 (by decide) ?_
    exact v_zretN 45 C rfl dX1_suitsRim_45 (by decide) hf
def f_X1_suitsRim_b25 (k : Nat) (r3 : Int32 → Int32 → Int32 → Int32 → Sg → Rs) (x1 : Int32) (x2 : Int32) (x3 : Int32) (x4 : Int32) (t0 : Int32) (σ : Sg) : Rs := p_call (f_X1_beside k x3 x4 σ) (fun v1 s2 => if v1 = (-1) then (f_X1_suitsRim_b41 k r3 x1 x2 x3 x4 t0 1 s2) else (f_X1_suitsRim_b41 k r3 x1 x2 x3 x4 t0 0 s2))
set_option maxRecDepth 100000 in
set_option maxHeartbeats 4000000 in
theorem k_X1_suitsRim_b25 {q : Mc} {E : En} {L : List Nat} {o : Int32 × Sg} (C : Cx q E L cX1_suitsRim 5 RX1 (some .boolean) (2)) (k : Nat) (hB : Bk L sh_Cut k) (r3 : Int32 → Int32 → Int32 → Int32 → Sg → Rs) (hr3 : ∀ (x1 : Int32) (x2 : Int32) (x3 : Int32) (x4 : Int32) (σ : Sg), r3 x1 x2 x3 x4 σ = some o → Vx q E L 5 (some .boolean) o 3 [(0, .ref (E.2.1 (k))), (1, .int x1), (2, .int x2), (3, .int x3), (4, .int x4)] [] σ) (x1 : Int32) (x2 : Int32) (x3 : Int32) (x4 : Int32) (t0 : Int32) (σ : Sg) (hf : f_X1_suitsRim_b25 k r3 x1 x2 x3 x4 t0 σ = some o) : Vx q E L 5 (some .boolean) o 25 [(0, .ref (E.2.1 (k))), (1, .int x1), (2, .int x2), (3, .int x3), (4, .int x4)] [.int t0] σ := by
  unfold f_X1_suitsRim_b25 at hf
  refine v_aload_n 25 C dX1_suitsRim_25 rfl rfl ?_
  refine v_iload_n 26 C dX1_suitsRim_26 rfl rfl ?_
  refine v_iload 27 C dX1_suitsRim_27 rfl ?_
  refine v_callV (st := [.int t0]) 29 C [.int x3, .int x4] lm_X1_39 ly_X1_beside (hB 0 _ rfl) (by decide) dX1_suitsRim_29 rfl (by decide) rfl (Nat.le_of_ble_eq_true rfl) (fun o1 h1 => m_X1_beside k hB x3 x4 σ o1 h1) hf (fun v1 s2 hf => ?_)
  refine v_iconst (v := (-1)) 32 C dX1_suitsRim_32 (by decide) ?_
  refine v_icmp_ne (tgt := 40) 33 C dX1_suitsRim_33 (by decide) hf (fun hf => ?_) (fun hf => ?_)
  · refine v_iconst (v := 0) 40 C dX1_suitsRim_40 (by decide) ?_
    exact Vx.lv [0, 1, 2, 3, 4] rfl (k_X1_suitsRim_b41 C k hB r3 hr3 x1 x2 x3 x4 t0 0 s2 hf)
  · refine v_iconst (v := 1) 36 C dX1_suitsRim_36 (by decide) ?_
    refine v_goto (tgt := 41) 37 C dX1_suitsRim_37 (by decide) ?_
    exact Vx.lv [0, 1, 2, 3, 4] rfl (k_X1_suitsRim_b41 C k hB r3 hr3 x1 x2 x3 x4 t0 1 s2 hf)
def f_X1_suitsRim_b3 (k : Nat)  : Nat → Int32 → Int32 → Int32 → Int32 → Sg → Rs
  | 0, _, _, _, _, _ => none
  | n + 1, x1, x2, x3, x4, σ => if 4 ≤ x4 then (some (1, σ)) else (p_call (f_X1_sideOf k x1 x2 x4 σ) (fun v1 s2 => if v1 = 0 then (f_X1_suitsRim_b25 k (f_X1_suitsRim_b3 k n) x1 x2 x3 x4 1 s2) else (f_X1_suitsRim_b25 k (f_X1_suitsRim_b3 k n) x1 x2 x3 x4 0 s2)))
set_option maxRecDepth 100000 in
set_option maxHeartbeats 4000000 in
theorem k_X1_suitsRim_b3 {q : Mc} {E : En} {L : List Nat} {o : Int32 × Sg} (C : Cx q E L cX1_suitsRim 5 RX1 (some .boolean) (2)) (k : Nat) (hB : Bk L sh_Cut k) (n : Nat) : ∀ (x1 : Int32) (x2 : Int32) (x3 : Int32) (x4 : Int32) (σ : Sg), f_X1_suitsRim_b3 k n x1 x2 x3 x4 σ = some o → Vx q E L 5 (some .boolean) o 3 [(0, .ref (E.2.1 (k))), (1, .int x1), (2, .int x2), (3, .int x3), (4, .int x4)] [] σ := by
  induction n with
  | zero => intro x1 x2 x3 x4 σ hf; cases (show (none : Rs) = some o from hf)
  | succ n ih =>
    intro x1 x2 x3 x4 σ hf
    rw [f_X1_suitsRim_b3] at hf
    refine v_iload 3 C dX1_suitsRim_3 rfl ?_
    refine v_iconst (v := 4) 5 C dX1_suitsRim_5 (by decide) ?_
    refine v_icmp_ge (tgt := 52) 6 C dX1_suitsRim_6 (by decide) hf (fun hf => ?_) (fun hf => ?_)
    · refine v_iconst (v := 1) 52 C dX1_suitsRim_52 (by decide) ?_
      exact v_zretN 53 C rfl dX1_suitsRim_53 (by decide) hf
    · refine v_aload_n 9 C dX1_suitsRim_9 rfl rfl ?_
      refine v_iload_n 10 C dX1_suitsRim_10 rfl rfl ?_
      refine v_iload_n 11 C dX1_suitsRim_11 rfl rfl ?_
      refine v_iload 12 C dX1_suitsRim_12 rfl ?_
      refine v_callV (st := []) 14 C [.int x1, .int x2, .int x4] lm_X1_42 ly_X1_sideOf (hB 0 _ rfl) (by decide) dX1_suitsRim_14 rfl (by decide) rfl (Nat.le_of_ble_eq_true rfl) (fun o1 h1 => m_X1_sideOf k hB x1 x2 x4 σ o1 h1) hf (fun v1 s2 hf => ?_)
      refine v_if_ne (tgt := 24) 17 C dX1_suitsRim_17 (by decide) hf (fun hf => ?_) (fun hf => ?_)
      · refine v_iconst (v := 0) 24 C dX1_suitsRim_24 (by decide) ?_
        exact Vx.lv [0, 1, 2, 3, 4] rfl (k_X1_suitsRim_b25 C k hB (f_X1_suitsRim_b3 k n) ih x1 x2 x3 x4 0 s2 hf)
      · refine v_iconst (v := 1) 20 C dX1_suitsRim_20 (by decide) ?_
        refine v_goto (tgt := 25) 21 C dX1_suitsRim_21 (by decide) ?_
        exact Vx.lv [0, 1, 2, 3, 4] rfl (k_X1_suitsRim_b25 C k hB (f_X1_suitsRim_b3 k n) ih x1 x2 x3 x4 1 s2 hf)
def f_X1_suitsRim (k : Nat) (x1 : Int32) (x2 : Int32) (x3 : Int32) (σ : Sg) : Rs := f_X1_suitsRim_b3 k fu x1 x2 x3 0 σ
set_option maxRecDepth 100000 in
set_option maxHeartbeats 4000000 in
theorem k_X1_suitsRim_b0 {q : Mc} {E : En} {L : List Nat} {o : Int32 × Sg} (C : Cx q E L cX1_suitsRim 5 RX1 (some .boolean) (2)) (k : Nat) (hB : Bk L sh_Cut k) (x1 : Int32) (x2 : Int32) (x3 : Int32) (σ : Sg) (hf : f_X1_suitsRim k x1 x2 x3 σ = some o) : Vx q E L 5 (some .boolean) o 0 [(0, .ref (E.2.1 (k))), (1, .int x1), (2, .int x2), (3, .int x3)] [] σ := by
  unfold f_X1_suitsRim at hf
  refine v_iconst (v := 0) 0 C dX1_suitsRim_0 (by decide) ?_
  refine v_istore (lv' := [(0, .ref (E.2.1 (k))), (1, .int x1), (2, .int x2), (3, .int x3), (4, .int 0)]) 1 C dX1_suitsRim_1 (by decide) rfl rfl ?_
  exact Vx.lv [0, 1, 2, 3, 4] rfl (k_X1_suitsRim_b3 C k hB fu x1 x2 x3 0 σ hf)
theorem m_X1_suitsRim {l : Launch} {E : En} {L : List Nat} (k : Nat) (hB : Bk L sh_Cut k) (x1 : Int32) (x2 : Int32) (x3 : Int32) (σ : Sg) (o : Int32 × Sg) (hf : f_X1_suitsRim k x1 x2 x3 σ = some o) : Mi l yX1_suitsRim cX1_suitsRim 5 (some .boolean) (2) E L [.ref (E.2.1 (k)), .int x1, .int x2, .int x3] σ o :=
  Mi.of RX1 rfl (by decide) (Nat.le_of_ble_eq_true rfl) (fun q hq C => by subst hq; exact k_X1_suitsRim_b0 C k hB x1 x2 x3 σ hf)
def f_X1_suitsNeighbours_b79 (k k1 : Nat) (r3 : Int32 → Int32 → Int32 → Int32 → Sg → Rs) (x2 : Int32) (x3 : Int32) (x4 : Int32) (x5 : Int32) (σ : Sg) : Rs := r3 x2 x3 x4 (x5 + 1) σ
set_option maxRecDepth 100000 in
set_option maxHeartbeats 4000000 in
theorem k_X1_suitsNeighbours_b79 {q : Mc} {E : En} {L : List Nat} {o : Int32 × Sg} (C : Cx q E L cX1_suitsNeighbours 8 RX1 (some .boolean) (2)) (k k1 : Nat) (hB : Bk L sh_Cut k) (hB1 : Bk L sh_Board k1) (r3 : Int32 → Int32 → Int32 → Int32 → Sg → Rs) (hr3 : ∀ (x2 : Int32) (x3 : Int32) (x4 : Int32) (x5 : Int32) (σ : Sg), r3 x2 x3 x4 x5 σ = some o → Vx q E L 8 (some .boolean) o 3 [(0, .ref (E.2.1 (k))), (1, .ref (E.2.1 (k1))), (2, .int x2), (3, .int x3), (4, .int x4), (5, .int x5)] [] σ) (x2 : Int32) (x3 : Int32) (x4 : Int32) (x5 : Int32) (σ : Sg) (hf : f_X1_suitsNeighbours_b79 k k1 r3 x2 x3 x4 x5 σ = some o) : Vx q E L 8 (some .boolean) o 79 [(0, .ref (E.2.1 (k))), (1, .ref (E.2.1 (k1))), (2, .int x2), (3, .int x3), (4, .int x4), (5, .int x5)] [] σ := by
  unfold f_X1_suitsNeighbours_b79 at hf
  refine v_iinc (v := x5 + 1) (lv' := [(0, .ref (E.2.1 (k))), (1, .ref (E.2.1 (k1))), (2, .int x2), (3, .int x3), (4, .int x4), (5, .int (x5 + 1))]) 79 C dX1_suitsNeighbours_79 rfl (by rfl) (by decide) rfl rfl ?_
  refine v_goto (tgt := 3) 82 C dX1_suitsNeighbours_82 (by decide) ?_
  exact Vx.lv [0, 1, 2, 3, 4, 5] rfl (hr3 x2 x3 x4 (x5 + 1) σ hf)
def f_X1_suitsNeighbours_b3 (k k1 : Nat)  : Nat → Int32 → Int32 → Int32 → Int32 → Sg → Rs
  | 0, _, _, _, _, _ => none
  | n + 1, x2, x3, x4, x5, σ => if 4 ≤ x5 then (some (1, σ)) else (p_call (f_X1_beside k x4 x5 σ) (fun v1 s2 => if v1 = (-1) then (f_X1_suitsNeighbours_b79 k k1 (f_X1_suitsNeighbours_b3 k k1 n) x2 x3 x4 x5 s2) else (p_call (f_X0_isFilled k1 v1 s2) (fun v3 s4 => if v3 = 0 then (f_X1_suitsNeighbours_b79 k k1 (f_X1_suitsNeighbours_b3 k k1 n) x2 x3 x4 x5 s4) else (p_rd s4 (k1 + 1) 16 v1 (fun v5 => p_rd s4 (k1 + 2) 16 v1 (fun v6 => p_call (f_X1_sideOf k v5 v6 ((x5 + 2) - (x5 + 2) / 4 * 4) s4) (fun v7 s8 => p_call (f_X1_sideOf k x2 x3 x5 s8) (fun v9 s10 => if (v9 + v7) = 0 then (f_X1_suitsNeighbours_b79 k k1 (f_X1_suitsNeighbours_b3 k k1 n) x2 x3 x4 x5 s10) else (some (0, s10)))))))))))
set_option maxRecDepth 100000 in
set_option maxHeartbeats 4000000 in
theorem k_X1_suitsNeighbours_b3 {q : Mc} {E : En} {L : List Nat} {o : Int32 × Sg} (C : Cx q E L cX1_suitsNeighbours 8 RX1 (some .boolean) (2)) (k k1 : Nat) (hB : Bk L sh_Cut k) (hB1 : Bk L sh_Board k1) (n : Nat) : ∀ (x2 : Int32) (x3 : Int32) (x4 : Int32) (x5 : Int32) (σ : Sg), f_X1_suitsNeighbours_b3 k k1 n x2 x3 x4 x5 σ = some o → Vx q E L 8 (some .boolean) o 3 [(0, .ref (E.2.1 (k))), (1, .ref (E.2.1 (k1))), (2, .int x2), (3, .int x3), (4, .int x4), (5, .int x5)] [] σ := by
  induction n with
  | zero => intro x2 x3 x4 x5 σ hf; cases (show (none : Rs) = some o from hf)
  | succ n ih =>
    intro x2 x3 x4 x5 σ hf
    rw [f_X1_suitsNeighbours_b3] at hf
    refine v_iload 3 C dX1_suitsNeighbours_3 rfl ?_
    refine v_iconst (v := 4) 5 C dX1_suitsNeighbours_5 (by decide) ?_
    refine v_icmp_ge (tgt := 85) 6 C dX1_suitsNeighbours_6 (by decide) hf (fun hf => ?_) (fun hf => ?_)
    · refine v_iconst (v := 1) 85 C dX1_suitsNeighbours_85 (by decide) ?_
      exact v_zretN 86 C rfl dX1_suitsNeighbours_86 (by decide) hf
    · refine v_aload_n 9 C dX1_suitsNeighbours_9 rfl rfl ?_
      refine v_iload 10 C dX1_suitsNeighbours_10 rfl ?_
      refine v_iload 12 C dX1_suitsNeighbours_12 rfl ?_
      refine v_callV (st := []) 14 C [.int x4, .int x5] lm_X1_39 ly_X1_beside (hB 0 _ rfl) (by decide) dX1_suitsNeighbours_14 rfl (by decide) rfl (Nat.le_of_ble_eq_true rfl) (fun o1 h1 => m_X1_beside k hB x4 x5 σ o1 h1) hf (fun v1 s2 hf => ?_)
      refine v_istore (lv' := [(0, .ref (E.2.1 (k))), (1, .ref (E.2.1 (k1))), (2, .int x2), (3, .int x3), (4, .int x4), (5, .int x5), (6, .int v1)]) 17 C dX1_suitsNeighbours_17 (by decide) rfl rfl ?_
      refine v_iload 19 C dX1_suitsNeighbours_19 rfl ?_
      refine v_iconst (v := (-1)) 21 C dX1_suitsNeighbours_21 (by decide) ?_
      refine v_icmp_eq (tgt := 79) 22 C dX1_suitsNeighbours_22 (by decide) hf (fun hf => ?_) (fun hf => ?_)
      · exact Vx.lv [0, 1, 2, 3, 4, 5] rfl (k_X1_suitsNeighbours_b79 C k k1 hB hB1 (f_X1_suitsNeighbours_b3 k k1 n) ih x2 x3 x4 x5 s2 hf)
      · refine v_aload_n 25 C dX1_suitsNeighbours_25 rfl rfl ?_
        refine v_iload 26 C dX1_suitsNeighbours_26 rfl ?_
        refine v_callV (st := []) 28 C [.int v1] lm_X1_46 ly_X0_isFilled (hB1 0 _ rfl) (by decide) dX1_suitsNeighbours_28 rfl (by decide) rfl (Nat.le_of_ble_eq_true rfl) (fun o1 h1 => m_X0_isFilled k1 hB1 v1 s2 o1 h1) hf (fun v3 s4 hf => ?_)
        refine v_if_ne (tgt := 37) 31 C dX1_suitsNeighbours_31 (by decide) hf (fun hf => ?_) (fun hf => ?_)
        · refine v_aload_n 37 C dX1_suitsNeighbours_37 rfl rfl ?_
          refine v_aload_n 38 C dX1_suitsNeighbours_38 rfl rfl ?_
          refine v_getR 39 C lk_X1_52 (hB1 0 _ rfl) (by decide) rfl dX1_suitsNeighbours_39 ?_
          refine v_iload 42 C dX1_suitsNeighbours_42 rfl ?_
          refine v_iald 44 C (hB1 1 _ rfl) dX1_suitsNeighbours_44 hf (fun v5 hf => ?_)
          refine v_aload_n 45 C dX1_suitsNeighbours_45 rfl rfl ?_
          refine v_getR 46 C lk_X1_55 (hB1 0 _ rfl) (by decide) rfl dX1_suitsNeighbours_46 ?_
          refine v_iload 49 C dX1_suitsNeighbours_49 rfl ?_
          refine v_iald 51 C (hB1 2 _ rfl) dX1_suitsNeighbours_51 hf (fun v6 hf => ?_)
          refine v_iload 52 C dX1_suitsNeighbours_52 rfl ?_
          refine v_iconst (v := 2) 54 C dX1_suitsNeighbours_54 (by decide) ?_
          refine v_iadd 55 C dX1_suitsNeighbours_55 ?_
          refine v_iconst (v := 4) 56 C dX1_suitsNeighbours_56 (by decide) ?_
          refine v_irem_c 57 C dX1_suitsNeighbours_57 (by decide) ?_
          refine v_callV (st := []) 58 C [.int v5, .int v6, .int ((x5 + 2) - (x5 + 2) / 4 * 4)] lm_X1_42 ly_X1_sideOf (hB 0 _ rfl) (by decide) dX1_suitsNeighbours_58 rfl (by decide) rfl (Nat.le_of_ble_eq_true rfl) (fun o1 h1 => m_X1_sideOf k hB v5 v6 ((x5 + 2) - (x5 + 2) / 4 * 4) s4 o1 h1) hf (fun v7 s8 hf => ?_)
          refine v_istore (lv' := [(0, .ref (E.2.1 (k))), (1, .ref (E.2.1 (k1))), (2, .int x2), (3, .int x3), (4, .int x4), (5, .int x5), (6, .int v1), (7, .int v7)]) 61 C dX1_suitsNeighbours_61 (by decide) rfl rfl ?_
          refine v_aload_n 63 C dX1_suitsNeighbours_63 rfl rfl ?_
          refine v_iload_n 64 C dX1_suitsNeighbours_64 rfl rfl ?_
          refine v_iload_n 65 C dX1_suitsNeighbours_65 rfl rfl ?_
          refine v_iload 66 C dX1_suitsNeighbours_66 rfl ?_
          refine v_callV (st := []) 68 C [.int x2, .int x3, .int x5] lm_X1_42 ly_X1_sideOf (hB 0 _ rfl) (by decide) dX1_suitsNeighbours_68 rfl (by decide) rfl (Nat.le_of_ble_eq_true rfl) (fun o1 h1 => m_X1_sideOf k hB x2 x3 x5 s8 o1 h1) hf (fun v9 s10 hf => ?_)
          refine v_iload 71 C dX1_suitsNeighbours_71 rfl ?_
          refine v_iadd 73 C dX1_suitsNeighbours_73 ?_
          refine v_if_eq (tgt := 79) 74 C dX1_suitsNeighbours_74 (by decide) hf (fun hf => ?_) (fun hf => ?_)
          · exact Vx.lv [0, 1, 2, 3, 4, 5] rfl (k_X1_suitsNeighbours_b79 C k k1 hB hB1 (f_X1_suitsNeighbours_b3 k k1 n) ih x2 x3 x4 x5 s10 hf)
          · refine v_iconst (v := 0) 77 C dX1_suitsNeighbours_77 (by decide) ?_
            exact v_zretN 78 C rfl dX1_suitsNeighbours_78 (by decide) hf
        · refine v_goto (tgt := 79) 34 C dX1_suitsNeighbours_34 (by decide) ?_
          exact Vx.lv [0, 1, 2, 3, 4, 5] rfl (k_X1_suitsNeighbours_b79 C k k1 hB hB1 (f_X1_suitsNeighbours_b3 k k1 n) ih x2 x3 x4 x5 s4 hf)
def f_X1_suitsNeighbours (k k1 : Nat) (x2 : Int32) (x3 : Int32) (x4 : Int32) (σ : Sg) : Rs := f_X1_suitsNeighbours_b3 k k1 fu x2 x3 x4 0 σ
set_option maxRecDepth 100000 in
set_option maxHeartbeats 4000000 in
theorem k_X1_suitsNeighbours_b0 {q : Mc} {E : En} {L : List Nat} {o : Int32 × Sg} (C : Cx q E L cX1_suitsNeighbours 8 RX1 (some .boolean) (2)) (k k1 : Nat) (hB : Bk L sh_Cut k) (hB1 : Bk L sh_Board k1) (x2 : Int32) (x3 : Int32) (x4 : Int32) (σ : Sg) (hf : f_X1_suitsNeighbours k k1 x2 x3 x4 σ = some o) : Vx q E L 8 (some .boolean) o 0 [(0, .ref (E.2.1 (k))), (1, .ref (E.2.1 (k1))), (2, .int x2), (3, .int x3), (4, .int x4)] [] σ := by
  unfold f_X1_suitsNeighbours at hf
  refine v_iconst (v := 0) 0 C dX1_suitsNeighbours_0 (by decide) ?_
  refine v_istore (lv' := [(0, .ref (E.2.1 (k))), (1, .ref (E.2.1 (k1))), (2, .int x2), (3, .int x3), (4, .int x4), (5, .int 0)]) 1 C dX1_suitsNeighbours_1 (by decide) rfl rfl ?_
  exact Vx.lv [0, 1, 2, 3, 4, 5] rfl (k_X1_suitsNeighbours_b3 C k k1 hB hB1 fu x2 x3 x4 0 σ hf)
theorem m_X1_suitsNeighbours {l : Launch} {E : En} {L : List Nat} (k k1 : Nat) (hB : Bk L sh_Cut k) (hB1 : Bk L sh_Board k1) (x2 : Int32) (x3 : Int32) (x4 : Int32) (σ : Sg) (o : Int32 × Sg) (hf : f_X1_suitsNeighbours k k1 x2 x3 x4 σ = some o) : Mi l yX1_suitsNeighbours cX1_suitsNeighbours 8 (some .boolean) (2) E L [.ref (E.2.1 (k)), .ref (E.2.1 (k1)), .int x2, .int x3, .int x4] σ o :=
  Mi.of RX1 rfl (by decide) (Nat.le_of_ble_eq_true rfl) (fun q hq C => by subst hq; exact k_X1_suitsNeighbours_b0 C k k1 hB hB1 x2 x3 x4 σ hf)
def f_X1_isFit (k k1 : Nat) (x2 : Int32) (x3 : Int32) (x4 : Int32) (σ : Sg) : Rs := p_call (f_X1_suitsRim k x2 x3 x4 σ) (fun v1 s2 => if v1 = 0 then (some (0, s2)) else (p_call (f_X1_suitsNeighbours k k1 x2 x3 x4 s2) (fun v3 s4 => if v3 = 0 then (some (0, s4)) else (some (1, s4)))))
set_option maxRecDepth 100000 in
set_option maxHeartbeats 4000000 in
theorem k_X1_isFit_b0 {q : Mc} {E : En} {L : List Nat} {o : Int32 × Sg} (C : Cx q E L cX1_isFit 5 RX1 (some .boolean) (3)) (k k1 : Nat) (hB : Bk L sh_Cut k) (hB1 : Bk L sh_Board k1) (x2 : Int32) (x3 : Int32) (x4 : Int32) (σ : Sg) (hf : f_X1_isFit k k1 x2 x3 x4 σ = some o) : Vx q E L 5 (some .boolean) o 0 [(0, .ref (E.2.1 (k))), (1, .ref (E.2.1 (k1))), (2, .int x2), (3, .int x3), (4, .int x4)] [] σ := by
  unfold f_X1_isFit at hf
  refine v_aload_n 0 C dX1_isFit_0 rfl rfl ?_
  refine v_iload_n 1 C dX1_isFit_1 rfl rfl ?_
  refine v_iload_n 2 C dX1_isFit_2 rfl rfl ?_
  refine v_iload 3 C dX1_isFit_3 rfl ?_
  refine v_callV (st := []) 5 C [.int x2, .int x3, .int x4] lm_X1_58 ly_X1_suitsRim (hB 0 _ rfl) (by decide) dX1_isFit_5 rfl (by decide) rfl (Nat.le_of_ble_eq_true rfl) (fun o1 h1 => m_X1_suitsRim k hB x2 x3 x4 σ o1 h1) hf (fun v1 s2 hf => ?_)
  refine v_if_eq (tgt := 27) 8 C dX1_isFit_8 (by decide) hf (fun hf => ?_) (fun hf => ?_)
  · refine v_iconst (v := 0) 27 C dX1_isFit_27 (by decide) ?_
    exact v_zretN 28 C rfl dX1_isFit_28 (by decide) hf
  · refine v_aload_n 11 C dX1_isFit_11 rfl rfl ?_
    refine v_aload_n 12 C dX1_isFit_12 rfl rfl ?_
    refine v_iload_n 13 C dX1_isFit_13 rfl rfl ?_
    refine v_iload_n 14 C dX1_isFit_14 rfl rfl ?_
    refine v_iload 15 C dX1_isFit_15 rfl ?_
    refine v_callV (st := []) 17 C [.ref (E.2.1 (k1)), .int x2, .int x3, .int x4] lm_X1_62 ly_X1_suitsNeighbours (hB 0 _ rfl) (by decide) dX1_isFit_17 rfl (by decide) rfl (Nat.le_of_ble_eq_true rfl) (fun o1 h1 => m_X1_suitsNeighbours k k1 hB hB1 x2 x3 x4 s2 o1 h1) hf (fun v3 s4 hf => ?_)
    refine v_if_eq (tgt := 27) 20 C dX1_isFit_20 (by decide) hf (fun hf => ?_) (fun hf => ?_)
    · refine v_iconst (v := 0) 27 C dX1_isFit_27 (by decide) ?_
      exact v_zretN 28 C rfl dX1_isFit_28 (by decide) hf
    · refine v_iconst (v := 1) 23 C dX1_isFit_23 (by decide) ?_
      refine v_goto (tgt := 28) 24 C dX1_isFit_24 (by decide) ?_
      exact v_zretN 28 C rfl dX1_isFit_28 (by decide) hf
theorem m_X1_isFit {l : Launch} {E : En} {L : List Nat} (k k1 : Nat) (hB : Bk L sh_Cut k) (hB1 : Bk L sh_Board k1) (x2 : Int32) (x3 : Int32) (x4 : Int32) (σ : Sg) (o : Int32 × Sg) (hf : f_X1_isFit k k1 x2 x3 x4 σ = some o) : Mi l yX1_isFit cX1_isFit 5 (some .boolean) (3) E L [.ref (E.2.1 (k)), .ref (E.2.1 (k1)), .int x2, .int x3, .int x4] σ o :=
  Mi.of RX1 rfl (by decide) (Nat.le_of_ble_eq_true rfl) (fun q hq C => by subst hq; exact k_X1_isFit_b0 C k k1 hB hB1 x2 x3 x4 σ hf)
def f_X1_kindOf (k k1 : Nat) (x2 : Int32) (x3 : Int32) (x4 : Int32) (σ : Sg) : Rs := p_call (f_X1_suitsRim k x2 x3 x4 σ) (fun v1 s2 => if v1 = 0 then (some (3, s2)) else (p_call (f_X1_suitsNeighbours k k1 x2 x3 x4 s2) (fun v3 s4 => if v3 = 0 then (some (4, s4)) else (if x2 = x4 then (if x3 = 0 then (some (1, s4)) else (some (2, s4))) else (some (2, s4))))))
set_option maxRecDepth 100000 in
set_option maxHeartbeats 4000000 in
theorem k_X1_kindOf_b0 {q : Mc} {E : En} {L : List Nat} {o : Int32 × Sg} (C : Cx q E L cX1_kindOf 5 RX1 (some .int) (3)) (k k1 : Nat) (hB : Bk L sh_Cut k) (hB1 : Bk L sh_Board k1) (x2 : Int32) (x3 : Int32) (x4 : Int32) (σ : Sg) (hf : f_X1_kindOf k k1 x2 x3 x4 σ = some o) : Vx q E L 5 (some .int) o 0 [(0, .ref (E.2.1 (k))), (1, .ref (E.2.1 (k1))), (2, .int x2), (3, .int x3), (4, .int x4)] [] σ := by
  unfold f_X1_kindOf at hf
  refine v_aload_n 0 C dX1_kindOf_0 rfl rfl ?_
  refine v_iload_n 1 C dX1_kindOf_1 rfl rfl ?_
  refine v_iload_n 2 C dX1_kindOf_2 rfl rfl ?_
  refine v_iload 3 C dX1_kindOf_3 rfl ?_
  refine v_callV (st := []) 5 C [.int x2, .int x3, .int x4] lm_X1_58 ly_X1_suitsRim (hB 0 _ rfl) (by decide) dX1_kindOf_5 rfl (by decide) rfl (Nat.le_of_ble_eq_true rfl) (fun o1 h1 => m_X1_suitsRim k hB x2 x3 x4 σ o1 h1) hf (fun v1 s2 hf => ?_)
  refine v_if_ne (tgt := 13) 8 C dX1_kindOf_8 (by decide) hf (fun hf => ?_) (fun hf => ?_)
  · refine v_aload_n 13 C dX1_kindOf_13 rfl rfl ?_
    refine v_aload_n 14 C dX1_kindOf_14 rfl rfl ?_
    refine v_iload_n 15 C dX1_kindOf_15 rfl rfl ?_
    refine v_iload_n 16 C dX1_kindOf_16 rfl rfl ?_
    refine v_iload 17 C dX1_kindOf_17 rfl ?_
    refine v_callV (st := []) 19 C [.ref (E.2.1 (k1)), .int x2, .int x3, .int x4] lm_X1_62 ly_X1_suitsNeighbours (hB 0 _ rfl) (by decide) dX1_kindOf_19 rfl (by decide) rfl (Nat.le_of_ble_eq_true rfl) (fun o1 h1 => m_X1_suitsNeighbours k k1 hB hB1 x2 x3 x4 s2 o1 h1) hf (fun v3 s4 hf => ?_)
    refine v_if_ne (tgt := 27) 22 C dX1_kindOf_22 (by decide) hf (fun hf => ?_) (fun hf => ?_)
    · refine v_iload_n 27 C dX1_kindOf_27 rfl rfl ?_
      refine v_iload 28 C dX1_kindOf_28 rfl ?_
      refine v_icmp_ne (tgt := 41) 30 C dX1_kindOf_30 (by decide) hf (fun hf => ?_) (fun hf => ?_)
      · refine v_iconst (v := 2) 41 C dX1_kindOf_41 (by decide) ?_
        exact v_iret 42 C rfl dX1_kindOf_42 hf
      · refine v_iload_n 33 C dX1_kindOf_33 rfl rfl ?_
        refine v_if_ne (tgt := 41) 34 C dX1_kindOf_34 (by decide) hf (fun hf => ?_) (fun hf => ?_)
        · refine v_iconst (v := 2) 41 C dX1_kindOf_41 (by decide) ?_
          exact v_iret 42 C rfl dX1_kindOf_42 hf
        · refine v_iconst (v := 1) 37 C dX1_kindOf_37 (by decide) ?_
          refine v_goto (tgt := 42) 38 C dX1_kindOf_38 (by decide) ?_
          exact v_iret 42 C rfl dX1_kindOf_42 hf
    · refine v_iconst (v := 4) 25 C dX1_kindOf_25 (by decide) ?_
      exact v_iret 26 C rfl dX1_kindOf_26 hf
  · refine v_iconst (v := 3) 11 C dX1_kindOf_11 (by decide) ?_
    exact v_iret 12 C rfl dX1_kindOf_12 hf
theorem m_X1_kindOf {l : Launch} {E : En} {L : List Nat} (k k1 : Nat) (hB : Bk L sh_Cut k) (hB1 : Bk L sh_Board k1) (x2 : Int32) (x3 : Int32) (x4 : Int32) (σ : Sg) (o : Int32 × Sg) (hf : f_X1_kindOf k k1 x2 x3 x4 σ = some o) : Mi l yX1_kindOf cX1_kindOf 5 (some .int) (3) E L [.ref (E.2.1 (k)), .ref (E.2.1 (k1)), .int x2, .int x3, .int x4] σ o :=
  Mi.of RX1 rfl (by decide) (Nat.le_of_ble_eq_true rfl) (fun q hq C => by subst hq; exact k_X1_kindOf_b0 C k k1 hB hB1 x2 x3 x4 σ hf)
def f_X1_reclass_b68 (k : Nat) (r4 : Int32 → Int32 → Int32 → Sg → Rs) (r15 : Int32 → Int32 → Int32 → Int32 → Sg → Rs) (x1 : Int32) (x2 : Int32) (x3 : Int32) (x4 : Int32) (σ : Sg) : Rs := r15 x1 x2 x3 (x4 + 1) σ
set_option maxRecDepth 100000 in
set_option maxHeartbeats 4000000 in
theorem k_X1_reclass_b68 {q : Mc} {E : En} {L : List Nat} {o : Int32 × Sg} (C : Cx q E L cX1_reclass 6 RX1 none (3)) (k : Nat) (hB : Bk L sh_Cut k) (r4 : Int32 → Int32 → Int32 → Sg → Rs) (hr4 : ∀ (x1 : Int32) (x2 : Int32) (x3 : Int32) (σ : Sg), r4 x1 x2 x3 σ = some o → Vx q E L 6 none o 4 [(0, .ref (E.2.1 (k))), (1, .int x1), (2, .int x2), (3, .int x3)] [] σ) (r15 : Int32 → Int32 → Int32 → Int32 → Sg → Rs) (hr15 : ∀ (x1 : Int32) (x2 : Int32) (x3 : Int32) (x4 : Int32) (σ : Sg), r15 x1 x2 x3 x4 σ = some o → Vx q E L 6 none o 15 [(0, .ref (E.2.1 (k))), (1, .int x1), (2, .int x2), (3, .int x3), (4, .int x4)] [] σ) (x1 : Int32) (x2 : Int32) (x3 : Int32) (x4 : Int32) (σ : Sg) (hf : f_X1_reclass_b68 k r4 r15 x1 x2 x3 x4 σ = some o) : Vx q E L 6 none o 68 [(0, .ref (E.2.1 (k))), (1, .int x1), (2, .int x2), (3, .int x3), (4, .int x4)] [] σ := by
  unfold f_X1_reclass_b68 at hf
  refine v_iinc (v := x4 + 1) (lv' := [(0, .ref (E.2.1 (k))), (1, .int x1), (2, .int x2), (3, .int x3), (4, .int (x4 + 1))]) 68 C dX1_reclass_68 rfl (by rfl) (by decide) rfl rfl ?_
  refine v_goto (tgt := 15) 71 C dX1_reclass_71 (by decide) ?_
  exact Vx.lv [0, 1, 2, 3, 4] rfl (hr15 x1 x2 x3 (x4 + 1) σ hf)
def f_X1_reclass_b62 (k : Nat) (r4 : Int32 → Int32 → Int32 → Sg → Rs) (r15 : Int32 → Int32 → Int32 → Int32 → Sg → Rs) (x1 : Int32) (x2 : Int32) (x3 : Int32) (x4 : Int32) (t1 : Int32) (t2 : Int32) (t3 : Int32) (σ : Sg) : Rs := p_call (f_X1_setEdge k t1 t2 t3 σ) (fun v1 s2 => f_X1_reclass_b68 k r4 r15 x1 (x2 + 1) x3 x4 s2)
set_option maxRecDepth 100000 in
set_option maxHeartbeats 4000000 in
theorem k_X1_reclass_b62 {q : Mc} {E : En} {L : List Nat} {o : Int32 × Sg} (C : Cx q E L cX1_reclass 6 RX1 none (3)) (k : Nat) (hB : Bk L sh_Cut k) (r4 : Int32 → Int32 → Int32 → Sg → Rs) (hr4 : ∀ (x1 : Int32) (x2 : Int32) (x3 : Int32) (σ : Sg), r4 x1 x2 x3 σ = some o → Vx q E L 6 none o 4 [(0, .ref (E.2.1 (k))), (1, .int x1), (2, .int x2), (3, .int x3)] [] σ) (r15 : Int32 → Int32 → Int32 → Int32 → Sg → Rs) (hr15 : ∀ (x1 : Int32) (x2 : Int32) (x3 : Int32) (x4 : Int32) (σ : Sg), r15 x1 x2 x3 x4 σ = some o → Vx q E L 6 none o 15 [(0, .ref (E.2.1 (k))), (1, .int x1), (2, .int x2), (3, .int x3), (4, .int x4)] [] σ) (x1 : Int32) (x2 : Int32) (x3 : Int32) (x4 : Int32) (t1 : Int32) (t2 : Int32) (t3 : Int32) (σ : Sg) (hf : f_X1_reclass_b62 k r4 r15 x1 x2 x3 x4 t1 t2 t3 σ = some o) : Vx q E L 6 none o 62 [(0, .ref (E.2.1 (k))), (1, .int x1), (2, .int x2), (3, .int x3), (4, .int x4)] [.int t3, .int t2, .int t1, .ref (E.2.1 (k))] σ := by
  unfold f_X1_reclass_b62 at hf
  refine v_callV (st := []) 62 C [.int t1, .int t2, .int t3] lm_X1_66 ly_X1_setEdge (hB 0 _ rfl) (by decide) dX1_reclass_62 rfl (by decide) rfl (Nat.le_of_ble_eq_true rfl) (fun o1 h1 => m_X1_setEdge k hB t1 t2 t3 σ o1 h1) hf (fun v1 s2 hf => ?_)
  refine v_iinc (v := x2 + 1) (lv' := [(0, .ref (E.2.1 (k))), (1, .int x1), (2, .int (x2 + 1)), (3, .int x3), (4, .int x4)]) 65 C dX1_reclass_65 rfl (by rfl) (by decide) rfl rfl ?_
  exact Vx.lv [0, 1, 2, 3, 4] rfl (k_X1_reclass_b68 C k hB r4 hr4 r15 hr15 x1 (x2 + 1) x3 x4 s2 hf)
def f_X1_reclass_b15 (k : Nat) (r4 : Int32 → Int32 → Int32 → Sg → Rs) : Nat → Int32 → Int32 → Int32 → Int32 → Sg → Rs
  | 0, _, _, _, _, _ => none
  | n + 1, x1, x2, x3, x4, σ => if 2 < x4 then (r4 x1 x2 (x3 + 1) σ) else (p_call (f_X1_beside k x3 x4 σ) (fun v1 s2 => if v1 = (-1) then (f_X1_reclass_b68 k r4 (f_X1_reclass_b15 k r4 n) x1 x2 x3 x4 s2) else (p_nz x1 (p_call (f_X1_sideOf k x3 0 x4 s2) (fun v3 s4 => if v3 ≤ 0 then (f_X1_reclass_b62 k r4 (f_X1_reclass_b15 k r4 n) x1 x2 x3 x4 x3 x4 (-(1 + (x2 - x2 / x1 * x1))) s4) else (f_X1_reclass_b62 k r4 (f_X1_reclass_b15 k r4 n) x1 x2 x3 x4 x3 x4 (1 + (x2 - x2 / x1 * x1)) s4))))))
set_option maxRecDepth 100000 in
set_option maxHeartbeats 4000000 in
theorem k_X1_reclass_b15 {q : Mc} {E : En} {L : List Nat} {o : Int32 × Sg} (C : Cx q E L cX1_reclass 6 RX1 none (3)) (k : Nat) (hB : Bk L sh_Cut k) (r4 : Int32 → Int32 → Int32 → Sg → Rs) (hr4 : ∀ (x1 : Int32) (x2 : Int32) (x3 : Int32) (σ : Sg), r4 x1 x2 x3 σ = some o → Vx q E L 6 none o 4 [(0, .ref (E.2.1 (k))), (1, .int x1), (2, .int x2), (3, .int x3)] [] σ) (n : Nat) : ∀ (x1 : Int32) (x2 : Int32) (x3 : Int32) (x4 : Int32) (σ : Sg), f_X1_reclass_b15 k r4 n x1 x2 x3 x4 σ = some o → Vx q E L 6 none o 15 [(0, .ref (E.2.1 (k))), (1, .int x1), (2, .int x2), (3, .int x3), (4, .int x4)] [] σ := by
  induction n with
  | zero => intro x1 x2 x3 x4 σ hf; cases (show (none : Rs) = some o from hf)
  | succ n ih =>
    intro x1 x2 x3 x4 σ hf
    rw [f_X1_reclass_b15] at hf
    refine v_iload 15 C dX1_reclass_15 rfl ?_
    refine v_iconst (v := 2) 17 C dX1_reclass_17 (by decide) ?_
    refine v_icmp_gt (tgt := 74) 18 C dX1_reclass_18 (by decide) hf (fun hf => ?_) (fun hf => ?_)
    · refine v_iinc (v := x3 + 1) (lv' := [(0, .ref (E.2.1 (k))), (1, .int x1), (2, .int x2), (3, .int (x3 + 1)), (4, .int x4)]) 74 C dX1_reclass_74 rfl (by rfl) (by decide) rfl rfl ?_
      refine v_goto (tgt := 4) 77 C dX1_reclass_77 (by decide) ?_
      exact Vx.lv [0, 1, 2, 3] rfl (hr4 x1 x2 (x3 + 1) σ hf)
    · refine v_aload_n 21 C dX1_reclass_21 rfl rfl ?_
      refine v_iload_n 22 C dX1_reclass_22 rfl rfl ?_
      refine v_iload 23 C dX1_reclass_23 rfl ?_
      refine v_callV (st := []) 25 C [.int x3, .int x4] lm_X1_39 ly_X1_beside (hB 0 _ rfl) (by decide) dX1_reclass_25 rfl (by decide) rfl (Nat.le_of_ble_eq_true rfl) (fun o1 h1 => m_X1_beside k hB x3 x4 σ o1 h1) hf (fun v1 s2 hf => ?_)
      refine v_iconst (v := (-1)) 28 C dX1_reclass_28 (by decide) ?_
      refine v_icmp_eq (tgt := 68) 29 C dX1_reclass_29 (by decide) hf (fun hf => ?_) (fun hf => ?_)
      · exact Vx.lv [0, 1, 2, 3, 4] rfl (k_X1_reclass_b68 C k hB r4 hr4 (f_X1_reclass_b15 k r4 n) ih x1 x2 x3 x4 s2 hf)
      · refine v_iconst (v := 1) 32 C dX1_reclass_32 (by decide) ?_
        refine v_iload_n 33 C dX1_reclass_33 rfl rfl ?_
        refine v_iload_n 34 C dX1_reclass_34 rfl rfl ?_
        refine v_irem 35 C dX1_reclass_35 hf (fun hf => ?_)
        refine v_iadd 36 C dX1_reclass_36 ?_
        refine v_istore (lv' := [(0, .ref (E.2.1 (k))), (1, .int x1), (2, .int x2), (3, .int x3), (4, .int x4), (5, .int (1 + (x2 - x2 / x1 * x1)))]) 37 C dX1_reclass_37 (by decide) rfl rfl ?_
        refine v_aload_n 39 C dX1_reclass_39 rfl rfl ?_
        refine v_iload_n 40 C dX1_reclass_40 rfl rfl ?_
        refine v_iload 41 C dX1_reclass_41 rfl ?_
        refine v_aload_n 43 C dX1_reclass_43 rfl rfl ?_
        refine v_iload_n 44 C dX1_reclass_44 rfl rfl ?_
        refine v_iconst (v := 0) 45 C dX1_reclass_45 (by decide) ?_
        refine v_iload 46 C dX1_reclass_46 rfl ?_
        refine v_callV (st := [.int x4, .int x3, .ref (E.2.1 (k))]) 48 C [.int x3, .int 0, .int x4] lm_X1_42 ly_X1_sideOf (hB 0 _ rfl) (by decide) dX1_reclass_48 rfl (by decide) rfl (Nat.le_of_ble_eq_true rfl) (fun o1 h1 => m_X1_sideOf k hB x3 0 x4 s2 o1 h1) hf (fun v3 s4 hf => ?_)
        refine v_if_le (tgt := 59) 51 C dX1_reclass_51 (by decide) hf (fun hf => ?_) (fun hf => ?_)
        · refine v_iload 59 C dX1_reclass_59 rfl ?_
          refine v_ineg 61 C dX1_reclass_61 ?_
          exact Vx.lv [0, 1, 2, 3, 4] rfl (k_X1_reclass_b62 C k hB r4 hr4 (f_X1_reclass_b15 k r4 n) ih x1 x2 x3 x4 x3 x4 (-(1 + (x2 - x2 / x1 * x1))) s4 hf)
        · refine v_iload 54 C dX1_reclass_54 rfl ?_
          refine v_goto (tgt := 62) 56 C dX1_reclass_56 (by decide) ?_
          exact Vx.lv [0, 1, 2, 3, 4] rfl (k_X1_reclass_b62 C k hB r4 hr4 (f_X1_reclass_b15 k r4 n) ih x1 x2 x3 x4 x3 x4 (1 + (x2 - x2 / x1 * x1)) s4 hf)
def f_X1_reclass_b4 (k : Nat)  : Nat → Int32 → Int32 → Int32 → Sg → Rs
  | 0, _, _, _, _ => none
  | n + 1, x1, x2, x3, σ => if (σ (k) 2) ≤ x3 then (some (0, σ)) else (f_X1_reclass_b15 k (f_X1_reclass_b4 k n) fu x1 x2 x3 1 σ)
set_option maxRecDepth 100000 in
set_option maxHeartbeats 4000000 in
theorem k_X1_reclass_b4 {q : Mc} {E : En} {L : List Nat} {o : Int32 × Sg} (C : Cx q E L cX1_reclass 6 RX1 none (3)) (k : Nat) (hB : Bk L sh_Cut k) (n : Nat) : ∀ (x1 : Int32) (x2 : Int32) (x3 : Int32) (σ : Sg), f_X1_reclass_b4 k n x1 x2 x3 σ = some o → Vx q E L 6 none o 4 [(0, .ref (E.2.1 (k))), (1, .int x1), (2, .int x2), (3, .int x3)] [] σ := by
  induction n with
  | zero => intro x1 x2 x3 σ hf; cases (show (none : Rs) = some o from hf)
  | succ n ih =>
    intro x1 x2 x3 σ hf
    rw [f_X1_reclass_b4] at hf
    refine v_iload_n 4 C dX1_reclass_4 rfl rfl ?_
    refine v_aload_n 5 C dX1_reclass_5 rfl rfl ?_
    refine v_getI (dum := 0) 6 C lk_X1_32 (hB 0 _ rfl) (by decide) rfl dX1_reclass_6 ?_
    refine v_icmp_ge (tgt := 80) 9 C dX1_reclass_9 (by decide) hf (fun hf => ?_) (fun hf => ?_)
    · exact v_ret (r := 0) 80 C rfl dX1_reclass_80 hf
    · refine v_iconst (v := 1) 12 C dX1_reclass_12 (by decide) ?_
      refine v_istore (lv' := [(0, .ref (E.2.1 (k))), (1, .int x1), (2, .int x2), (3, .int x3), (4, .int 1)]) 13 C dX1_reclass_13 (by decide) rfl rfl ?_
      exact Vx.lv [0, 1, 2, 3, 4] rfl (k_X1_reclass_b15 C k hB (f_X1_reclass_b4 k n) ih fu x1 x2 x3 1 σ hf)
def f_X1_reclass (k : Nat) (x1 : Int32) (σ : Sg) : Rs := f_X1_reclass_b4 k fu x1 0 0 σ
set_option maxRecDepth 100000 in
set_option maxHeartbeats 4000000 in
theorem k_X1_reclass_b0 {q : Mc} {E : En} {L : List Nat} {o : Int32 × Sg} (C : Cx q E L cX1_reclass 6 RX1 none (3)) (k : Nat) (hB : Bk L sh_Cut k) (x1 : Int32) (σ : Sg) (hf : f_X1_reclass k x1 σ = some o) : Vx q E L 6 none o 0 [(0, .ref (E.2.1 (k))), (1, .int x1)] [] σ := by
  unfold f_X1_reclass at hf
  refine v_iconst (v := 0) 0 C dX1_reclass_0 (by decide) ?_
  refine v_istore_n (lv' := [(0, .ref (E.2.1 (k))), (1, .int x1), (2, .int 0)]) 1 C dX1_reclass_1 rfl (by decide) rfl rfl ?_
  refine v_iconst (v := 0) 2 C dX1_reclass_2 (by decide) ?_
  refine v_istore_n (lv' := [(0, .ref (E.2.1 (k))), (1, .int x1), (2, .int 0), (3, .int 0)]) 3 C dX1_reclass_3 rfl (by decide) rfl rfl ?_
  exact Vx.lv [0, 1, 2, 3] rfl (k_X1_reclass_b4 C k hB fu x1 0 0 σ hf)
theorem m_X1_reclass {l : Launch} {E : En} {L : List Nat} (k : Nat) (hB : Bk L sh_Cut k) (x1 : Int32) (σ : Sg) (o : Int32 × Sg) (hf : f_X1_reclass k x1 σ = some o) : Mi l yX1_reclass cX1_reclass 6 none (3) E L [.ref (E.2.1 (k)), .int x1] σ o :=
  Mi.of RX1 rfl (by decide) (Nat.le_of_ble_eq_true rfl) (fun q hq C => by subst hq; exact k_X1_reclass_b0 C k hB x1 σ hf)
def f_X1_copyFrom_b62 (k k1 : Nat)  : Nat → Int32 → Sg → Rs
  | 0, _, _ => none
  | n + 1, x2, σ => if 16 ≤ x2 then (some (0, σ)) else (p_rd σ (k1 + 3) 16 x2 (fun v1 => p_wr σ (k + 3) 16 x2 (nz v1) (fun s2 => p_rd s2 (k1 + 4) 16 x2 (fun v3 => p_wr s2 (k + 4) 16 x2 v3 (fun s4 => f_X1_copyFrom_b62 k k1 n (x2 + 1) s4)))))
set_option maxRecDepth 100000 in
set_option maxHeartbeats 4000000 in
theorem k_X1_copyFrom_b62 {q : Mc} {E : En} {L : List Nat} {o : Int32 × Sg} (C : Cx q E L cX1_copyFrom 3 RX1 none (1)) (k k1 : Nat) (hB : Bk L sh_Cut k) (hB1 : Bk L sh_Cut k1) (n : Nat) : ∀ (x2 : Int32) (σ : Sg), f_X1_copyFrom_b62 k k1 n x2 σ = some o → Vx q E L 3 none o 62 [(0, .ref (E.2.1 (k))), (1, .ref (E.2.1 (k1))), (2, .int x2)] [] σ := by
  induction n with
  | zero => intro x2 σ hf; cases (show (none : Rs) = some o from hf)
  | succ n ih =>
    intro x2 σ hf
    rw [f_X1_copyFrom_b62] at hf
    refine v_iload_n 62 C dX1_copyFrom_62 rfl rfl ?_
    refine v_bipush (v := 16) 63 C dX1_copyFrom_63 (by decide) ?_
    refine v_icmp_ge (tgt := 98) 65 C dX1_copyFrom_65 (by decide) hf (fun hf => ?_) (fun hf => ?_)
    · exact v_ret (r := 0) 98 C rfl dX1_copyFrom_98 hf
    · refine v_aload_n 68 C dX1_copyFrom_68 rfl rfl ?_
      refine v_getR 69 C lk_X1_18 (hB 0 _ rfl) (by decide) rfl dX1_copyFrom_69 ?_
      refine v_iload_n 72 C dX1_copyFrom_72 rfl rfl ?_
      refine v_aload_n 73 C dX1_copyFrom_73 rfl rfl ?_
      refine v_getR 74 C lk_X1_18 (hB1 0 _ rfl) (by decide) rfl dX1_copyFrom_74 ?_
      refine v_iload_n 77 C dX1_copyFrom_77 rfl rfl ?_
      refine v_zald 78 C (hB1 3 _ rfl) dX1_copyFrom_78 hf (fun v1 hf => ?_)
      refine v_zast 79 C (hB 3 _ rfl) dX1_copyFrom_79 hf (fun s2 hf => ?_)
      refine v_aload_n 80 C dX1_copyFrom_80 rfl rfl ?_
      refine v_getR 81 C lk_X1_22 (hB 0 _ rfl) (by decide) rfl dX1_copyFrom_81 ?_
      refine v_iload_n 84 C dX1_copyFrom_84 rfl rfl ?_
      refine v_aload_n 85 C dX1_copyFrom_85 rfl rfl ?_
      refine v_getR 86 C lk_X1_22 (hB1 0 _ rfl) (by decide) rfl dX1_copyFrom_86 ?_
      refine v_iload_n 89 C dX1_copyFrom_89 rfl rfl ?_
      refine v_iald 90 C (hB1 4 _ rfl) dX1_copyFrom_90 hf (fun v3 hf => ?_)
      refine v_iast 91 C (hB 4 _ rfl) dX1_copyFrom_91 hf (fun s4 hf => ?_)
      refine v_iinc (v := x2 + 1) (lv' := [(0, .ref (E.2.1 (k))), (1, .ref (E.2.1 (k1))), (2, .int (x2 + 1))]) 92 C dX1_copyFrom_92 rfl (by rfl) (by decide) rfl rfl ?_
      refine v_goto (tgt := 62) 95 C dX1_copyFrom_95 (by decide) ?_
      exact Vx.lv [0, 1, 2] rfl (ih (x2 + 1) s4 hf)
def f_X1_copyFrom (k k1 : Nat) (σ : Sg) : Rs := p_put σ (k) 0 (σ (k1) 0) (fun s1 => p_put s1 (k) 1 (s1 (k1) 1) (fun s2 => p_put s2 (k) 2 (s2 (k1) 2) (fun s3 => p_cpy s3 (k1 + 1) 64 (k + 1) 64 0 0 64 (fun s4 => p_cpy s4 (k1 + 2) 64 (k + 2) 64 0 0 64 (fun s5 => f_X1_copyFrom_b62 k k1 fu 0 s5)))))
set_option maxRecDepth 100000 in
set_option maxHeartbeats 4000000 in
theorem k_X1_copyFrom_b0 {q : Mc} {E : En} {L : List Nat} {o : Int32 × Sg} (C : Cx q E L cX1_copyFrom 3 RX1 none (1)) (k k1 : Nat) (hB : Bk L sh_Cut k) (hB1 : Bk L sh_Cut k1) (σ : Sg) (hf : f_X1_copyFrom k k1 σ = some o) : Vx q E L 3 none o 0 [(0, .ref (E.2.1 (k))), (1, .ref (E.2.1 (k1)))] [] σ := by
  unfold f_X1_copyFrom at hf
  refine v_aload_n 0 C dX1_copyFrom_0 rfl rfl ?_
  refine v_aload_n 1 C dX1_copyFrom_1 rfl rfl ?_
  refine v_getI (dum := 0) 2 C lk_X1_25 (hB1 0 _ rfl) (by decide) rfl dX1_copyFrom_2 ?_
  refine v_putI 5 C lp_X1_25 (hB 0 _ rfl) (by decide) rfl dX1_copyFrom_5 hf (fun s1 hf => ?_)
  refine v_aload_n 8 C dX1_copyFrom_8 rfl rfl ?_
  refine v_aload_n 9 C dX1_copyFrom_9 rfl rfl ?_
  refine v_getI (dum := 0) 10 C lk_X1_29 (hB1 0 _ rfl) (by decide) rfl dX1_copyFrom_10 ?_
  refine v_putI 13 C lp_X1_29 (hB 0 _ rfl) (by decide) rfl dX1_copyFrom_13 hf (fun s2 hf => ?_)
  refine v_aload_n 16 C dX1_copyFrom_16 rfl rfl ?_
  refine v_aload_n 17 C dX1_copyFrom_17 rfl rfl ?_
  refine v_getI (dum := 0) 18 C lk_X1_32 (hB1 0 _ rfl) (by decide) rfl dX1_copyFrom_18 ?_
  refine v_putI 21 C lp_X1_32 (hB 0 _ rfl) (by decide) rfl dX1_copyFrom_21 hf (fun s3 hf => ?_)
  refine v_aload_n 24 C dX1_copyFrom_24 rfl rfl ?_
  refine v_getR 25 C lk_X1_9 (hB1 0 _ rfl) (by decide) rfl dX1_copyFrom_25 ?_
  refine v_iconst (v := 0) 28 C dX1_copyFrom_28 (by decide) ?_
  refine v_aload_n 29 C dX1_copyFrom_29 rfl rfl ?_
  refine v_getR 30 C lk_X1_9 (hB 0 _ rfl) (by decide) rfl dX1_copyFrom_30 ?_
  refine v_iconst (v := 0) 33 C dX1_copyFrom_33 (by decide) ?_
  refine v_aload_n 34 C dX1_copyFrom_34 rfl rfl ?_
  refine v_getR 35 C lk_X1_9 (hB 0 _ rfl) (by decide) rfl dX1_copyFrom_35 ?_
  refine v_alen (v := 64) 38 C (hB 1 _ rfl) (Or.inl rfl) rfl dX1_copyFrom_38 ?_
  refine v_copyi 39 C lmc_X1_70 lcp (by decide) (Nat.le_of_ble_eq_true rfl) (hB1 1 _ rfl) (hB 1 _ rfl) dX1_copyFrom_39 hf (fun s4 hf => ?_)
  refine v_aload_n 42 C dX1_copyFrom_42 rfl rfl ?_
  refine v_getR 43 C lk_X1_15 (hB1 0 _ rfl) (by decide) rfl dX1_copyFrom_43 ?_
  refine v_iconst (v := 0) 46 C dX1_copyFrom_46 (by decide) ?_
  refine v_aload_n 47 C dX1_copyFrom_47 rfl rfl ?_
  refine v_getR 48 C lk_X1_15 (hB 0 _ rfl) (by decide) rfl dX1_copyFrom_48 ?_
  refine v_iconst (v := 0) 51 C dX1_copyFrom_51 (by decide) ?_
  refine v_aload_n 52 C dX1_copyFrom_52 rfl rfl ?_
  refine v_getR 53 C lk_X1_15 (hB 0 _ rfl) (by decide) rfl dX1_copyFrom_53 ?_
  refine v_alen (v := 64) 56 C (hB 2 _ rfl) (Or.inl rfl) rfl dX1_copyFrom_56 ?_
  refine v_copyi 57 C lmc_X1_70 lcp (by decide) (Nat.le_of_ble_eq_true rfl) (hB1 2 _ rfl) (hB 2 _ rfl) dX1_copyFrom_57 hf (fun s5 hf => ?_)
  refine v_iconst (v := 0) 60 C dX1_copyFrom_60 (by decide) ?_
  refine v_istore_n (lv' := [(0, .ref (E.2.1 (k))), (1, .ref (E.2.1 (k1))), (2, .int 0)]) 61 C dX1_copyFrom_61 rfl (by decide) rfl rfl ?_
  exact Vx.lv [0, 1, 2] rfl (k_X1_copyFrom_b62 C k k1 hB hB1 fu 0 s5 hf)
theorem m_X1_copyFrom {l : Launch} {E : En} {L : List Nat} (k k1 : Nat) (hB : Bk L sh_Cut k) (hB1 : Bk L sh_Cut k1) (σ : Sg) (o : Int32 × Sg) (hf : f_X1_copyFrom k k1 σ = some o) : Mi l yX1_copyFrom cX1_copyFrom 3 none (1) E L [.ref (E.2.1 (k)), .ref (E.2.1 (k1))] σ o :=
  Mi.of RX1 rfl (by decide) (Nat.le_of_ble_eq_true rfl) (fun q hq C => by subst hq; exact k_X1_copyFrom_b0 C k k1 hB hB1  σ hf)
