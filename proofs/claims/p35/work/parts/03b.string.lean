/-! printed by wip/whole/gen/gen.py: methods as pure functions, and that the machine does them -/
def f_J0_isLatin1_aae02 (c0 : Nat) (σ : Sg) : Rs := if (1 : Int32) = 0 then (some (0, σ)) else (if (0 : Int32) = 0 then (some (1, σ)) else (some (0, σ)))
set_option maxRecDepth 100000 in
set_option maxHeartbeats 4000000 in
theorem k_J0_isLatin1_aae02_b0 {q : Mc} {E : En} {L : List Nat} {o : Int32 × Sg} (C : Cx q E L cJ0_isLatin1_aae02 1 RJ0 (some .boolean) (1)) (c0 : Nat) (hc0 : c0 < 7) (σ : Sg) (hf : f_J0_isLatin1_aae02 c0 σ = some o) : Vx q E L 1 (some .boolean) o 0 [(0, .ref (E.2.2.2.1 c0))] [] σ := by
  unfold f_J0_isLatin1_aae02 at hf
  refine v_gstat 0 C lf_J0_38 dJ0_isLatin1_aae02_0 ?_
  refine v_if_eq (tgt := 17) 3 C dJ0_isLatin1_aae02_3 (by decide) hf (fun hf => ?_) (fun hf => ?_)
  · refine v_iconst (v := 0) 17 C dJ0_isLatin1_aae02_17 (by decide) ?_
    exact v_zretN 18 C rfl dJ0_isLatin1_aae02_18 (by decide) hf
  · refine v_aload_n 6 C dJ0_isLatin1_aae02_6 rfl rfl ?_
    refine v_scod 7 C hc0 lf_J0_15 dJ0_isLatin1_aae02_7 ?_
    refine v_if_ne (tgt := 17) 10 C dJ0_isLatin1_aae02_10 (by decide) hf (fun hf => ?_) (fun hf => ?_)
    · refine v_iconst (v := 0) 17 C dJ0_isLatin1_aae02_17 (by decide) ?_
      exact v_zretN 18 C rfl dJ0_isLatin1_aae02_18 (by decide) hf
    · refine v_iconst (v := 1) 13 C dJ0_isLatin1_aae02_13 (by decide) ?_
      refine v_goto (tgt := 18) 14 C dJ0_isLatin1_aae02_14 (by decide) ?_
      exact v_zretN 18 C rfl dJ0_isLatin1_aae02_18 (by decide) hf
theorem m_J0_isLatin1_aae02 {l : Launch} {E : En} {L : List Nat} (c0 : Nat) (hc0 : c0 < 7) (σ : Sg) (o : Int32 × Sg) (hf : f_J0_isLatin1_aae02 c0 σ = some o) : Mi l yJ0_isLatin1_aae02 cJ0_isLatin1_aae02 1 (some .boolean) (1) E L [.ref (E.2.2.2.1 c0)] σ o :=
  Mi.of RJ0 rfl (by decide) (Nat.le_of_ble_eq_true rfl) (fun q hq C => by subst hq; exact k_J0_isLatin1_aae02_b0 C c0 hc0  σ hf)
def f_J0_coder_7d493 (c0 : Nat) (σ : Sg) : Rs := if (1 : Int32) = 0 then (some (1, σ)) else (some (0, σ))
set_option maxRecDepth 100000 in
set_option maxHeartbeats 4000000 in
theorem k_J0_coder_7d493_b0 {q : Mc} {E : En} {L : List Nat} {o : Int32 × Sg} (C : Cx q E L cJ0_coder_7d493 1 RJ0 (some .byte) (1)) (c0 : Nat) (hc0 : c0 < 7) (σ : Sg) (hf : f_J0_coder_7d493 c0 σ = some o) : Vx q E L 1 (some .byte) o 0 [(0, .ref (E.2.2.2.1 c0))] [] σ := by
  unfold f_J0_coder_7d493 at hf
  refine v_gstat 0 C lf_J0_38 dJ0_coder_7d493_0 ?_
  refine v_if_eq (tgt := 13) 3 C dJ0_coder_7d493_3 (by decide) hf (fun hf => ?_) (fun hf => ?_)
  · refine v_iconst (v := 1) 13 C dJ0_coder_7d493_13 (by decide) ?_
    exact v_bretN 14 C rfl dJ0_coder_7d493_14 (by decide) hf
  · refine v_aload_n 6 C dJ0_coder_7d493_6 rfl rfl ?_
    refine v_scod 7 C hc0 lf_J0_15 dJ0_coder_7d493_7 ?_
    refine v_goto (tgt := 14) 10 C dJ0_coder_7d493_10 (by decide) ?_
    exact v_bretN 14 C rfl dJ0_coder_7d493_14 (by decide) hf
theorem m_J0_coder_7d493 {l : Launch} {E : En} {L : List Nat} (c0 : Nat) (hc0 : c0 < 7) (σ : Sg) (o : Int32 × Sg) (hf : f_J0_coder_7d493 c0 σ = some o) : Mi l yJ0_coder_7d493 cJ0_coder_7d493 1 (some .byte) (1) E L [.ref (E.2.2.2.1 c0)] σ o :=
  Mi.of RJ0 rfl (by decide) (Nat.le_of_ble_eq_true rfl) (fun q hq C => by subst hq; exact k_J0_coder_7d493_b0 C c0 hc0  σ hf)
def f_J0_length_8abf5 (c0 : Nat) (σ : Sg) : Rs := p_call (f_J0_coder_7d493 c0 σ) (fun v1 s2 => some ((Int32.ofNat (strLen.getD c0 0)) >>> (v1 &&& 31), s2))
set_option maxRecDepth 100000 in
set_option maxHeartbeats 4000000 in
theorem k_J0_length_8abf5_b0 {q : Mc} {E : En} {L : List Nat} {o : Int32 × Sg} (C : Cx q E L cJ0_length_8abf5 1 RJ0 (some .int) (2)) (c0 : Nat) (hc0 : c0 < 7) (σ : Sg) (hf : f_J0_length_8abf5 c0 σ = some o) : Vx q E L 1 (some .int) o 0 [(0, .ref (E.2.2.2.1 c0))] [] σ := by
  unfold f_J0_length_8abf5 at hf
  refine v_aload_n 0 C dJ0_length_8abf5_0 rfl rfl ?_
  refine v_sval 1 C hc0 lf_J0_9 dJ0_length_8abf5_1 ?_
  refine v_slen 4 C hc0 dJ0_length_8abf5_4 ?_
  refine v_aload_n 5 C dJ0_length_8abf5_5 rfl rfl ?_
  refine v_callT (st := [.int (Int32.ofNat (strLen.getD c0 0))]) 6 C [] lmj_J0_335 ls_J0_coder_7d493 hc0 dJ0_length_8abf5_6 rfl (by decide) rfl (Nat.le_of_ble_eq_true rfl) (fun o1 h1 => m_J0_coder_7d493 c0 hc0  σ o1 h1) hf (fun v1 s2 hf => ?_)
  refine v_ishr 9 C dJ0_length_8abf5_9 ?_
  exact v_iret 10 C rfl dJ0_length_8abf5_10 hf
theorem m_J0_length_8abf5 {l : Launch} {E : En} {L : List Nat} (c0 : Nat) (hc0 : c0 < 7) (σ : Sg) (o : Int32 × Sg) (hf : f_J0_length_8abf5 c0 σ = some o) : Mi l yJ0_length_8abf5 cJ0_length_8abf5 1 (some .int) (2) E L [.ref (E.2.2.2.1 c0)] σ o :=
  Mi.of RJ0 rfl (by decide) (Nat.le_of_ble_eq_true rfl) (fun q hq C => by subst hq; exact k_J0_length_8abf5_b0 C c0 hc0  σ hf)
def f_J1_canEncode_9a6ad (x0 : Int32) (σ : Sg) : Rs := if x0 < 0 then (some (0, σ)) else (if 255 < x0 then (some (0, σ)) else (some (1, σ)))
set_option maxRecDepth 100000 in
set_option maxHeartbeats 4000000 in
theorem k_J1_canEncode_9a6ad_b0 {q : Mc} {E : En} {L : List Nat} {o : Int32 × Sg} (C : Cx q E L cJ1_canEncode_9a6ad 1 RJ1 (some .boolean) (1)) (x0 : Int32) (σ : Sg) (hf : f_J1_canEncode_9a6ad x0 σ = some o) : Vx q E L 1 (some .boolean) o 0 [(0, .int x0)] [] σ := by
  unfold f_J1_canEncode_9a6ad at hf
  refine v_iload_n 0 C dJ1_canEncode_9a6ad_0 rfl rfl ?_
  refine v_if_lt (tgt := 15) 1 C dJ1_canEncode_9a6ad_1 (by decide) hf (fun hf => ?_) (fun hf => ?_)
  · refine v_iconst (v := 0) 15 C dJ1_canEncode_9a6ad_15 (by decide) ?_
    exact v_zretN 16 C rfl dJ1_canEncode_9a6ad_16 (by decide) hf
  · refine v_iload_n 4 C dJ1_canEncode_9a6ad_4 rfl rfl ?_
    refine v_sipush (v := 255) 5 C dJ1_canEncode_9a6ad_5 (by decide) ?_
    refine v_icmp_gt (tgt := 15) 8 C dJ1_canEncode_9a6ad_8 (by decide) hf (fun hf => ?_) (fun hf => ?_)
    · refine v_iconst (v := 0) 15 C dJ1_canEncode_9a6ad_15 (by decide) ?_
      exact v_zretN 16 C rfl dJ1_canEncode_9a6ad_16 (by decide) hf
    · refine v_iconst (v := 1) 11 C dJ1_canEncode_9a6ad_11 (by decide) ?_
      refine v_goto (tgt := 16) 12 C dJ1_canEncode_9a6ad_12 (by decide) ?_
      exact v_zretN 16 C rfl dJ1_canEncode_9a6ad_16 (by decide) hf
theorem m_J1_canEncode_9a6ad {l : Launch} {E : En} {L : List Nat} (x0 : Int32) (σ : Sg) (o : Int32 × Sg) (hf : f_J1_canEncode_9a6ad x0 σ = some o) : Mi l yJ1_canEncode_9a6ad cJ1_canEncode_9a6ad 1 (some .boolean) (1) E L [.int x0] σ o :=
  Mi.of RJ1 rfl (by decide) (Nat.le_of_ble_eq_true rfl) (fun q hq C => by subst hq; exact k_J1_canEncode_9a6ad_b0 C   x0 σ hf)
def f_J1_indexOfChar_4cfef_b7 (c0 : Nat)  : Nat → Int32 → Int32 → Int32 → Sg → Rs
  | 0, _, _, _, _ => none
  | n + 1, x3, x4, x5, σ => if x3 ≤ x5 then (some ((-1), σ)) else (p_srd c0 x5 (fun v1 => if v1 = x4 then (some (x5, σ)) else (f_J1_indexOfChar_4cfef_b7 c0 n x3 x4 (x5 + 1) σ)))
set_option maxRecDepth 100000 in
set_option maxHeartbeats 4000000 in
theorem k_J1_indexOfChar_4cfef_b7 {q : Mc} {E : En} {L : List Nat} {o : Int32 × Sg} (C : Cx q E L cJ1_indexOfChar_4cfef 6 RJ1 (some .int) (1)) (c0 : Nat) (hc0 : c0 < 7) (n : Nat) : ∀ (x3 : Int32) (x4 : Int32) (x5 : Int32) (σ : Sg), f_J1_indexOfChar_4cfef_b7 c0 n x3 x4 x5 σ = some o → Vx q E L 6 (some .int) o 7 [(0, .ref (E.2.2.2.2 c0)), (3, .int x3), (4, .int x4), (5, .int x5)] [] σ := by
  induction n with
  | zero => intro x3 x4 x5 σ hf; cases (show (none : Rs) = some o from hf)
  | succ n ih =>
    intro x3 x4 x5 σ hf
    rw [f_J1_indexOfChar_4cfef_b7] at hf
    refine v_iload 7 C dJ1_indexOfChar_4cfef_7 rfl ?_
    refine v_iload_n 9 C dJ1_indexOfChar_4cfef_9 rfl rfl ?_
    refine v_icmp_ge (tgt := 31) 10 C dJ1_indexOfChar_4cfef_10 (by decide) hf (fun hf => ?_) (fun hf => ?_)
    · refine v_iconst (v := (-1)) 31 C dJ1_indexOfChar_4cfef_31 (by decide) ?_
      exact v_iret 32 C rfl dJ1_indexOfChar_4cfef_32 hf
    · refine v_aload_n 13 C dJ1_indexOfChar_4cfef_13 rfl rfl ?_
      refine v_iload 14 C dJ1_indexOfChar_4cfef_14 rfl ?_
      refine v_sbal 16 C hc0 dJ1_indexOfChar_4cfef_16 hf (fun v1 hf => ?_)
      refine v_iload 17 C dJ1_indexOfChar_4cfef_17 rfl ?_
      refine v_icmp_ne (tgt := 25) 19 C dJ1_indexOfChar_4cfef_19 (by decide) hf (fun hf => ?_) (fun hf => ?_)
      · refine v_iinc (v := x5 + 1) (lv' := [(0, .ref (E.2.2.2.2 c0)), (3, .int x3), (4, .int x4), (5, .int (x5 + 1))]) 25 C dJ1_indexOfChar_4cfef_25 rfl (by rfl) (by decide) rfl rfl ?_
        refine v_goto (tgt := 7) 28 C dJ1_indexOfChar_4cfef_28 (by decide) ?_
        exact Vx.lv [0, 1, 2, 3] rfl (ih x3 x4 (x5 + 1) σ hf)
      · refine v_iload 22 C dJ1_indexOfChar_4cfef_22 rfl ?_
        exact v_iret 24 C rfl dJ1_indexOfChar_4cfef_24 hf
def f_J1_indexOfChar_4cfef (c0 : Nat) (x1 : Int32) (x2 : Int32) (x3 : Int32) (σ : Sg) : Rs := f_J1_indexOfChar_4cfef_b7 c0 fu x3 ((x1 : Int32).toInt8.toInt32) x2 σ
set_option maxRecDepth 100000 in
set_option maxHeartbeats 4000000 in
theorem k_J1_indexOfChar_4cfef_b0 {q : Mc} {E : En} {L : List Nat} {o : Int32 × Sg} (C : Cx q E L cJ1_indexOfChar_4cfef 6 RJ1 (some .int) (1)) (c0 : Nat) (hc0 : c0 < 7) (x1 : Int32) (x2 : Int32) (x3 : Int32) (σ : Sg) (hf : f_J1_indexOfChar_4cfef c0 x1 x2 x3 σ = some o) : Vx q E L 6 (some .int) o 0 [(0, .ref (E.2.2.2.2 c0)), (1, .int x1), (2, .int x2), (3, .int x3)] [] σ := by
  unfold f_J1_indexOfChar_4cfef at hf
  refine v_iload_n 0 C dJ1_indexOfChar_4cfef_0 rfl rfl ?_
  refine v_i2b 1 C dJ1_indexOfChar_4cfef_1 ?_
  refine v_istore (lv' := [(0, .ref (E.2.2.2.2 c0)), (1, .int x1), (2, .int x2), (3, .int x3), (4, .int ((x1 : Int32).toInt8.toInt32))]) 2 C dJ1_indexOfChar_4cfef_2 (by decide) rfl rfl ?_
  refine v_iload_n 4 C dJ1_indexOfChar_4cfef_4 rfl rfl ?_
  refine v_istore (lv' := [(0, .ref (E.2.2.2.2 c0)), (1, .int x1), (2, .int x2), (3, .int x3), (4, .int ((x1 : Int32).toInt8.toInt32)), (5, .int x2)]) 5 C dJ1_indexOfChar_4cfef_5 (by decide) rfl rfl ?_
  exact Vx.lv [0, 3, 4, 5] rfl (k_J1_indexOfChar_4cfef_b7 C c0 hc0 fu x3 ((x1 : Int32).toInt8.toInt32) x2 σ hf)
theorem m_J1_indexOfChar_4cfef {l : Launch} {E : En} {L : List Nat} (c0 : Nat) (hc0 : c0 < 7) (x1 : Int32) (x2 : Int32) (x3 : Int32) (σ : Sg) (o : Int32 × Sg) (hf : f_J1_indexOfChar_4cfef c0 x1 x2 x3 σ = some o) : Mi l yJ1_indexOfChar_4cfef cJ1_indexOfChar_4cfef 6 (some .int) (1) E L [.ref (E.2.2.2.2 c0), .int x1, .int x2, .int x3] σ o :=
  Mi.of RJ1 rfl (by decide) (Nat.le_of_ble_eq_true rfl) (fun q hq C => by subst hq; exact k_J1_indexOfChar_4cfef_b0 C c0 hc0 x1 x2 x3 σ hf)
def f_J1_indexOf_4cfef (c0 : Nat) (x1 : Int32) (x2 : Int32) (x3 : Int32) (σ : Sg) : Rs := p_call (f_J1_canEncode_9a6ad x1 σ) (fun v1 s2 => if v1 = 0 then (some ((-1), s2)) else (if (jmax x2 0) < (jmin x3 (Int32.ofNat (strLen.getD c0 0))) then (p_call (f_J1_indexOfChar_4cfef c0 x1 (jmax x2 0) (jmin x3 (Int32.ofNat (strLen.getD c0 0))) s2) (fun v3 s4 => some (v3, s4))) else (some ((-1), s2))))
set_option maxRecDepth 100000 in
set_option maxHeartbeats 4000000 in
theorem k_J1_indexOf_4cfef_b0 {q : Mc} {E : En} {L : List Nat} {o : Int32 × Sg} (C : Cx q E L cJ1_indexOf_4cfef 4 RJ1 (some .int) (2)) (c0 : Nat) (hc0 : c0 < 7) (x1 : Int32) (x2 : Int32) (x3 : Int32) (σ : Sg) (hf : f_J1_indexOf_4cfef c0 x1 x2 x3 σ = some o) : Vx q E L 4 (some .int) o 0 [(0, .ref (E.2.2.2.2 c0)), (1, .int x1), (2, .int x2), (3, .int x3)] [] σ := by
  unfold f_J1_indexOf_4cfef at hf
  refine v_iload_n 0 C dJ1_indexOf_4cfef_0 rfl rfl ?_
  refine v_callS (st := []) 1 C [.int x1] (Or.inl lmj_J1_88) lz_J1_canEncode_9a6ad dJ1_indexOf_4cfef_1 rfl (by decide) rfl (Nat.le_of_ble_eq_true rfl) (fun o1 h1 => m_J1_canEncode_9a6ad   x1 σ o1 h1) hf (fun v1 s2 hf => ?_)
  refine v_if_ne (tgt := 9) 4 C dJ1_indexOf_4cfef_4 (by decide) hf (fun hf => ?_) (fun hf => ?_)
  · refine v_iload_n 9 C dJ1_indexOf_4cfef_9 rfl rfl ?_
    refine v_iconst (v := 0) 10 C dJ1_indexOf_4cfef_10 (by decide) ?_
    refine v_mmax 11 C lmm_J1_92 lma_max (by decide) (Nat.le_of_ble_eq_true rfl) dJ1_indexOf_4cfef_11 ?_
    refine v_istore_n (lv' := [(0, .ref (E.2.2.2.2 c0)), (1, .int x1), (2, .int (jmax x2 0)), (3, .int x3)]) 14 C dJ1_indexOf_4cfef_14 rfl (by decide) rfl rfl ?_
    refine v_iload_n 15 C dJ1_indexOf_4cfef_15 rfl rfl ?_
    refine v_aload_n 16 C dJ1_indexOf_4cfef_16 rfl rfl ?_
    refine v_slen 17 C hc0 dJ1_indexOf_4cfef_17 ?_
    refine v_mmin 18 C lmm_J1_38 lma_min (by decide) (Nat.le_of_ble_eq_true rfl) dJ1_indexOf_4cfef_18 ?_
    refine v_istore_n (lv' := [(0, .ref (E.2.2.2.2 c0)), (1, .int x1), (2, .int (jmax x2 0)), (3, .int (jmin x3 (Int32.ofNat (strLen.getD c0 0))))]) 21 C dJ1_indexOf_4cfef_21 rfl (by decide) rfl rfl ?_
    refine v_iload_n 22 C dJ1_indexOf_4cfef_22 rfl rfl ?_
    refine v_iload_n 23 C dJ1_indexOf_4cfef_23 rfl rfl ?_
    refine v_icmp_lt (tgt := 29) 24 C dJ1_indexOf_4cfef_24 (by decide) hf (fun hf => ?_) (fun hf => ?_)
    · refine v_aload_n 29 C dJ1_indexOf_4cfef_29 rfl rfl ?_
      refine v_iload_n 30 C dJ1_indexOf_4cfef_30 rfl rfl ?_
      refine v_iload_n 31 C dJ1_indexOf_4cfef_31 rfl rfl ?_
      refine v_iload_n 32 C dJ1_indexOf_4cfef_32 rfl rfl ?_
      refine v_callS (st := []) 33 C [.ref (E.2.2.2.2 c0), .int x1, .int (jmax x2 0), .int (jmin x3 (Int32.ofNat (strLen.getD c0 0)))] (Or.inl lmj_J1_95) lz_J1_indexOfChar_4cfef dJ1_indexOf_4cfef_33 rfl (by decide) rfl (Nat.le_of_ble_eq_true rfl) (fun o1 h1 => m_J1_indexOfChar_4cfef c0 hc0 x1 (jmax x2 0) (jmin x3 (Int32.ofNat (strLen.getD c0 0))) s2 o1 h1) hf (fun v3 s4 hf => ?_)
      exact v_iret 36 C rfl dJ1_indexOf_4cfef_36 hf
    · refine v_iconst (v := (-1)) 27 C dJ1_indexOf_4cfef_27 (by decide) ?_
      exact v_iret 28 C rfl dJ1_indexOf_4cfef_28 hf
  · refine v_iconst (v := (-1)) 7 C dJ1_indexOf_4cfef_7 (by decide) ?_
    exact v_iret 8 C rfl dJ1_indexOf_4cfef_8 hf
theorem m_J1_indexOf_4cfef {l : Launch} {E : En} {L : List Nat} (c0 : Nat) (hc0 : c0 < 7) (x1 : Int32) (x2 : Int32) (x3 : Int32) (σ : Sg) (o : Int32 × Sg) (hf : f_J1_indexOf_4cfef c0 x1 x2 x3 σ = some o) : Mi l yJ1_indexOf_4cfef cJ1_indexOf_4cfef 4 (some .int) (2) E L [.ref (E.2.2.2.2 c0), .int x1, .int x2, .int x3] σ o :=
  Mi.of RJ1 rfl (by decide) (Nat.le_of_ble_eq_true rfl) (fun q hq C => by subst hq; exact k_J1_indexOf_4cfef_b0 C c0 hc0 x1 x2 x3 σ hf)
def f_J0_indexOf_7cf53 (c0 : Nat) (x1 : Int32) (x2 : Int32) (σ : Sg) : Rs := p_call (f_J0_isLatin1_aae02 c0 σ) (fun v1 s2 => if v1 = 0 then (p_call (f_J0_length_8abf5 c0 s2) (fun v3 s4 => none)) else (p_call (f_J0_length_8abf5 c0 s2) (fun v5 s6 => p_call (f_J1_indexOf_4cfef c0 x1 x2 v5 s6) (fun v7 s8 => some (v7, s8)))))
set_option maxRecDepth 100000 in
set_option maxHeartbeats 4000000 in
theorem k_J0_indexOf_7cf53_b0 {q : Mc} {E : En} {L : List Nat} {o : Int32 × Sg} (C : Cx q E L cJ0_indexOf_7cf53 3 RJ0 (some .int) (3)) (c0 : Nat) (hc0 : c0 < 7) (x1 : Int32) (x2 : Int32) (σ : Sg) (hf : f_J0_indexOf_7cf53 c0 x1 x2 σ = some o) : Vx q E L 3 (some .int) o 0 [(0, .ref (E.2.2.2.1 c0)), (1, .int x1), (2, .int x2)] [] σ := by
  unfold f_J0_indexOf_7cf53 at hf
  refine v_aload_n 0 C dJ0_indexOf_7cf53_0 rfl rfl ?_
  refine v_callT (st := []) 1 C [] lmj_J0_492 ls_J0_isLatin1_aae02 hc0 dJ0_indexOf_7cf53_1 rfl (by decide) rfl (Nat.le_of_ble_eq_true rfl) (fun o1 h1 => m_J0_isLatin1_aae02 c0 hc0  σ o1 h1) hf (fun v1 s2 hf => ?_)
  refine v_if_eq (tgt := 23) 4 C dJ0_indexOf_7cf53_4 (by decide) hf (fun hf => ?_) (fun hf => ?_)
  · refine v_aload_n 23 C dJ0_indexOf_7cf53_23 rfl rfl ?_
    refine v_sval 24 C hc0 lf_J0_9 dJ0_indexOf_7cf53_24 ?_
    refine v_iload_n 27 C dJ0_indexOf_7cf53_27 rfl rfl ?_
    refine v_iload_n 28 C dJ0_indexOf_7cf53_28 rfl rfl ?_
    refine v_aload_n 29 C dJ0_indexOf_7cf53_29 rfl rfl ?_
    refine v_callT (st := [.int x2, .int x1, .ref (E.2.2.2.2 c0)]) 30 C [] lmj_J0_505 ls_J0_length_8abf5 hc0 dJ0_indexOf_7cf53_30 rfl (by decide) rfl (Nat.le_of_ble_eq_true rfl) (fun o1 h1 => m_J0_length_8abf5 c0 hc0  s2 o1 h1) hf (fun v3 s4 hf => ?_)
    cases hf
  · refine v_aload_n 7 C dJ0_indexOf_7cf53_7 rfl rfl ?_
    refine v_sval 8 C hc0 lf_J0_9 dJ0_indexOf_7cf53_8 ?_
    refine v_iload_n 11 C dJ0_indexOf_7cf53_11 rfl rfl ?_
    refine v_iload_n 12 C dJ0_indexOf_7cf53_12 rfl rfl ?_
    refine v_aload_n 13 C dJ0_indexOf_7cf53_13 rfl rfl ?_
    refine v_callT (st := [.int x2, .int x1, .ref (E.2.2.2.2 c0)]) 14 C [] lmj_J0_505 ls_J0_length_8abf5 hc0 dJ0_indexOf_7cf53_14 rfl (by decide) rfl (Nat.le_of_ble_eq_true rfl) (fun o1 h1 => m_J0_length_8abf5 c0 hc0  s2 o1 h1) hf (fun v5 s6 hf => ?_)
    refine v_callS (st := []) 17 C [.ref (E.2.2.2.2 c0), .int x1, .int x2, .int v5] (Or.inl lmj_J0_637) lz_J1_indexOf_4cfef dJ0_indexOf_7cf53_17 rfl (by decide) rfl (Nat.le_of_ble_eq_true rfl) (fun o1 h1 => m_J1_indexOf_4cfef c0 hc0 x1 x2 v5 s6 o1 h1) hf (fun v7 s8 hf => ?_)
    refine v_goto (tgt := 36) 20 C dJ0_indexOf_7cf53_20 (by decide) ?_
    exact v_iret 36 C rfl dJ0_indexOf_7cf53_36 hf
theorem m_J0_indexOf_7cf53 {l : Launch} {E : En} {L : List Nat} (c0 : Nat) (hc0 : c0 < 7) (x1 : Int32) (x2 : Int32) (σ : Sg) (o : Int32 × Sg) (hf : f_J0_indexOf_7cf53 c0 x1 x2 σ = some o) : Mi l yJ0_indexOf_7cf53 cJ0_indexOf_7cf53 3 (some .int) (3) E L [.ref (E.2.2.2.1 c0), .int x1, .int x2] σ o :=
  Mi.of RJ0 rfl (by decide) (Nat.le_of_ble_eq_true rfl) (fun q hq C => by subst hq; exact k_J0_indexOf_7cf53_b0 C c0 hc0 x1 x2 σ hf)
def f_J0_indexOf_0f7a4 (c0 : Nat) (x1 : Int32) (σ : Sg) : Rs := p_call (f_J0_indexOf_7cf53 c0 x1 0 σ) (fun v1 s2 => some (v1, s2))
set_option maxRecDepth 100000 in
set_option maxHeartbeats 4000000 in
theorem k_J0_indexOf_0f7a4_b0 {q : Mc} {E : En} {L : List Nat} {o : Int32 × Sg} (C : Cx q E L cJ0_indexOf_0f7a4 2 RJ0 (some .int) (4)) (c0 : Nat) (hc0 : c0 < 7) (x1 : Int32) (σ : Sg) (hf : f_J0_indexOf_0f7a4 c0 x1 σ = some o) : Vx q E L 2 (some .int) o 0 [(0, .ref (E.2.2.2.1 c0)), (1, .int x1)] [] σ := by
  unfold f_J0_indexOf_0f7a4 at hf
  refine v_aload_n 0 C dJ0_indexOf_0f7a4_0 rfl rfl ?_
  refine v_iload_n 1 C dJ0_indexOf_0f7a4_1 rfl rfl ?_
  refine v_iconst (v := 0) 2 C dJ0_indexOf_0f7a4_2 (by decide) ?_
  refine v_callT (st := []) 3 C [.int x1, .int 0] lmj_J0_633 ls_J0_indexOf_7cf53 hc0 dJ0_indexOf_0f7a4_3 rfl (by decide) rfl (Nat.le_of_ble_eq_true rfl) (fun o1 h1 => m_J0_indexOf_7cf53 c0 hc0 x1 0 σ o1 h1) hf (fun v1 s2 hf => ?_)
  exact v_iret 6 C rfl dJ0_indexOf_0f7a4_6 hf
theorem m_J0_indexOf_0f7a4 {l : Launch} {E : En} {L : List Nat} (c0 : Nat) (hc0 : c0 < 7) (x1 : Int32) (σ : Sg) (o : Int32 × Sg) (hf : f_J0_indexOf_0f7a4 c0 x1 σ = some o) : Mi l yJ0_indexOf_0f7a4 cJ0_indexOf_0f7a4 2 (some .int) (4) E L [.ref (E.2.2.2.1 c0), .int x1] σ o :=
  Mi.of RJ0 rfl (by decide) (Nat.le_of_ble_eq_true rfl) (fun q hq C => by subst hq; exact k_J0_indexOf_0f7a4_b0 C c0 hc0 x1 σ hf)
