/-! printed by wip/whole/gen/ctor.py: the constructors -/
theorem lo : Lo := ⟨tb1 26 (by decide +kernel), tb1 27 (by decide +kernel)⟩
theorem ac_int : Cond.arrayClass .int ∈ lw_tbl := tb1 78 (by decide +kernel)
theorem ac_boolean : Cond.arrayClass .boolean ∈ lw_tbl := tb1 79 (by decide +kernel)
theorem ac_char : Cond.arrayClass .char ∈ lw_tbl := tb1 196 (by decide +kernel)
theorem lob_X0 : Cond.methodLink RX0 3 objectInit ∈ lw_tbl := tb1 85 (by decide +kernel)
theorem lff_X0_9 : Lf RX0 9 0 0 (tyX0 0) := ⟨RX0, TX0, 5, tyX0, rfl, by decide, inX0, tb1 86 (by decide +kernel), tyX0_ok, nmX0, rfl, rfl, rfl⟩
theorem lff_X0_15 : Lf RX0 15 0 1 (tyX0 1) := ⟨RX0, TX0, 5, tyX0, rfl, by decide, inX0, tb1 90 (by decide +kernel), tyX0_ok, nmX0, rfl, rfl, rfl⟩
theorem lff_X0_18 : Lf RX0 18 0 2 (tyX0 2) := ⟨RX0, TX0, 5, tyX0, rfl, by decide, inX0, tb1 93 (by decide +kernel), tyX0_ok, nmX0, rfl, rfl, rfl⟩
theorem lff_X0_21 : Lf RX0 21 0 3 (tyX0 3) := ⟨RX0, TX0, 5, tyX0, rfl, by decide, inX0, tb1 95 (by decide +kernel), tyX0_ok, nmX0, rfl, rfl, rfl⟩
theorem lff_X0_25 : Lf RX0 25 0 4 (tyX0 4) := ⟨RX0, TX0, 5, tyX0, rfl, by decide, inX0, tb1 96 (by decide +kernel), tyX0_ok, nmX0, rfl, rfl, rfl⟩
set_option maxRecDepth 100000 in
set_option maxHeartbeats 4000000 in
theorem i_X0_init {l : Launch} (E : En) : Ni l yX0_init cX0_init 1 1 5 80 E 0 [.null, .null, .null, .null, .null] sh_Board (fun ρ => ρ = z0) := by
  refine Ni.of RX0 rfl rfl (by decide) (by decide) (fun q h0 hq C => ?_)
  subst hq
  refine n_aload0 0 C dX0_init_0 rfl ?_
  refine n_obj 1 C lob_X0 lo (by decide) (Nat.le_of_ble_eq_true rfl) dX0_init_1 ?_
  refine n_aload0 4 C dX0_init_4 rfl ?_
  refine n_bipush (v := 16) 5 C dX0_init_5 (by decide) ?_
  refine n_newaI (N := 16) 7 C ac_int (by decide) (by decide) (by decide) (by decide) dX0_init_7 (fun q1 => ?_)
  refine Nx.weq (ws' := (h0, (.inr (0, [.null, .null, .null, .null, .null]) : va_E)) :: ([(q1, (.inl (E.2.2.1 (nCls + 0), 16, .inl fun _ => 0) : va_E))])) (c' := 1) (s' := 16) rfl rfl rfl ?_
  refine n_putF (wr := [(q1, (.inl (E.2.2.1 (nCls + 0), 16, .inl fun _ => 0) : va_E))]) (fs' := [.ref (q1), .null, .null, .null, .null]) 9 C lff_X0_9 rfl rfl rfl (Nat.le_of_ble_eq_true rfl) rfl dX0_init_9 ?_
  refine n_aload0 12 C dX0_init_12 rfl ?_
  refine n_bipush (v := 16) 13 C dX0_init_13 (by decide) ?_
  refine n_newaI (N := 16) 15 C ac_int (by decide) (by decide) (by decide) (by decide) dX0_init_15 (fun q2 => ?_)
  refine Nx.weq (ws' := (h0, (.inr (0, [.ref (q1), .null, .null, .null, .null]) : va_E)) :: ([(q1, (.inl (E.2.2.1 (nCls + 0), 16, .inl fun _ => 0) : va_E))] ++ [(q2, (.inl (E.2.2.1 (nCls + 0), 16, .inl fun _ => 0) : va_E))])) (c' := 2) (s' := 32) rfl rfl rfl ?_
  refine n_putF (wr := [(q1, (.inl (E.2.2.1 (nCls + 0), 16, .inl fun _ => 0) : va_E))] ++ [(q2, (.inl (E.2.2.1 (nCls + 0), 16, .inl fun _ => 0) : va_E))]) (fs' := [.ref (q1), .ref (q2), .null, .null, .null]) 17 C lff_X0_15 rfl rfl rfl (Nat.le_of_ble_eq_true rfl) rfl dX0_init_17 ?_
  refine n_aload0 20 C dX0_init_20 rfl ?_
  refine n_bipush (v := 16) 21 C dX0_init_21 (by decide) ?_
  refine n_newaI (N := 16) 23 C ac_int (by decide) (by decide) (by decide) (by decide) dX0_init_23 (fun q3 => ?_)
  refine Nx.weq (ws' := (h0, (.inr (0, [.ref (q1), .ref (q2), .null, .null, .null]) : va_E)) :: ([(q1, (.inl (E.2.2.1 (nCls + 0), 16, .inl fun _ => 0) : va_E))] ++ [(q2, (.inl (E.2.2.1 (nCls + 0), 16, .inl fun _ => 0) : va_E))] ++ [(q3, (.inl (E.2.2.1 (nCls + 0), 16, .inl fun _ => 0) : va_E))])) (c' := 3) (s' := 48) rfl rfl rfl ?_
  refine n_putF (wr := [(q1, (.inl (E.2.2.1 (nCls + 0), 16, .inl fun _ => 0) : va_E))] ++ [(q2, (.inl (E.2.2.1 (nCls + 0), 16, .inl fun _ => 0) : va_E))] ++ [(q3, (.inl (E.2.2.1 (nCls + 0), 16, .inl fun _ => 0) : va_E))]) (fs' := [.ref (q1), .ref (q2), .ref (q3), .null, .null]) 25 C lff_X0_18 rfl rfl rfl (Nat.le_of_ble_eq_true rfl) rfl dX0_init_25 ?_
  refine n_aload0 28 C dX0_init_28 rfl ?_
  refine n_bipush (v := 16) 29 C dX0_init_29 (by decide) ?_
  refine n_newaZ (N := 16) 31 C ac_boolean (by decide) (by decide) (by decide) (by decide) dX0_init_31 (fun q4 => ?_)
  refine Nx.weq (ws' := (h0, (.inr (0, [.ref (q1), .ref (q2), .ref (q3), .null, .null]) : va_E)) :: ([(q1, (.inl (E.2.2.1 (nCls + 0), 16, .inl fun _ => 0) : va_E))] ++ [(q2, (.inl (E.2.2.1 (nCls + 0), 16, .inl fun _ => 0) : va_E))] ++ [(q3, (.inl (E.2.2.1 (nCls + 0), 16, .inl fun _ => 0) : va_E))] ++ [(q4, (.inl (E.2.2.1 (nCls + 1), 16, .inl fun _ => 0) : va_E))])) (c' := 4) (s' := 64) rfl rfl rfl ?_
  refine n_putF (wr := [(q1, (.inl (E.2.2.1 (nCls + 0), 16, .inl fun _ => 0) : va_E))] ++ [(q2, (.inl (E.2.2.1 (nCls + 0), 16, .inl fun _ => 0) : va_E))] ++ [(q3, (.inl (E.2.2.1 (nCls + 0), 16, .inl fun _ => 0) : va_E))] ++ [(q4, (.inl (E.2.2.1 (nCls + 1), 16, .inl fun _ => 0) : va_E))]) (fs' := [.ref (q1), .ref (q2), .ref (q3), .ref (q4), .null]) 33 C lff_X0_21 rfl rfl rfl (Nat.le_of_ble_eq_true rfl) rfl dX0_init_33 ?_
  refine n_aload0 36 C dX0_init_36 rfl ?_
  refine n_bipush (v := 16) 37 C dX0_init_37 (by decide) ?_
  refine n_newaZ (N := 16) 39 C ac_boolean (by decide) (by decide) (by decide) (by decide) dX0_init_39 (fun q5 => ?_)
  refine Nx.weq (ws' := (h0, (.inr (0, [.ref (q1), .ref (q2), .ref (q3), .ref (q4), .null]) : va_E)) :: ([(q1, (.inl (E.2.2.1 (nCls + 0), 16, .inl fun _ => 0) : va_E))] ++ [(q2, (.inl (E.2.2.1 (nCls + 0), 16, .inl fun _ => 0) : va_E))] ++ [(q3, (.inl (E.2.2.1 (nCls + 0), 16, .inl fun _ => 0) : va_E))] ++ [(q4, (.inl (E.2.2.1 (nCls + 1), 16, .inl fun _ => 0) : va_E))] ++ [(q5, (.inl (E.2.2.1 (nCls + 1), 16, .inl fun _ => 0) : va_E))])) (c' := 5) (s' := 80) rfl rfl rfl ?_
  refine n_putF (wr := [(q1, (.inl (E.2.2.1 (nCls + 0), 16, .inl fun _ => 0) : va_E))] ++ [(q2, (.inl (E.2.2.1 (nCls + 0), 16, .inl fun _ => 0) : va_E))] ++ [(q3, (.inl (E.2.2.1 (nCls + 0), 16, .inl fun _ => 0) : va_E))] ++ [(q4, (.inl (E.2.2.1 (nCls + 1), 16, .inl fun _ => 0) : va_E))] ++ [(q5, (.inl (E.2.2.1 (nCls + 1), 16, .inl fun _ => 0) : va_E))]) (fs' := [.ref (q1), .ref (q2), .ref (q3), .ref (q4), .ref (q5)]) 41 C lff_X0_25 rfl rfl rfl (Nat.le_of_ble_eq_true rfl) rfl dX0_init_41 ?_
  exact n_ret 44 C (fun j => if j < 1 then h0 else if j < 2 then q1 else if j < 3 then q2 else if j < 4 then q3 else if j < 5 then q4 else q5) z0 rfl rfl [0, 1, 2, 3, 4, 5] rfl (by decide) (by decide) dX0_init_44
theorem lob_X1 : Cond.methodLink RX1 3 objectInit ∈ lw_tbl := tb1 39 (by decide +kernel)
theorem lff_X1_9 : Lf RX1 9 1 3 (tyX1 3) := ⟨RX1, TX1, 7, tyX1, rfl, by decide, inX1, tb1 53 (by decide +kernel), tyX1_ok, nmX1, rfl, rfl, rfl⟩
theorem lff_X1_15 : Lf RX1 15 1 4 (tyX1 4) := ⟨RX1, TX1, 7, tyX1, rfl, by decide, inX1, tb1 54 (by decide +kernel), tyX1_ok, nmX1, rfl, rfl, rfl⟩
theorem lff_X1_18 : Lf RX1 18 1 5 (tyX1 5) := ⟨RX1, TX1, 7, tyX1, rfl, by decide, inX1, tb1 55 (by decide +kernel), tyX1_ok, nmX1, rfl, rfl, rfl⟩
theorem lff_X1_22 : Lf RX1 22 1 6 (tyX1 6) := ⟨RX1, TX1, 7, tyX1, rfl, by decide, inX1, tb1 58 (by decide +kernel), tyX1_ok, nmX1, rfl, rfl, rfl⟩
set_option maxRecDepth 100000 in
set_option maxHeartbeats 4000000 in
theorem i_X1_init {l : Launch} (E : En) : Ni l yX1_init cX1_init 1 1 4 160 E 1 [.int 0, .int 0, .int 0, .null, .null, .null, .null] sh_Cut (fun ρ => ρ = z0) := by
  refine Ni.of RX1 rfl rfl (by decide) (by decide) (fun q h0 hq C => ?_)
  subst hq
  refine n_aload0 0 C dX1_init_0 rfl ?_
  refine n_obj 1 C lob_X1 lo (by decide) (Nat.le_of_ble_eq_true rfl) dX1_init_1 ?_
  refine n_aload0 4 C dX1_init_4 rfl ?_
  refine n_bipush (v := 64) 5 C dX1_init_5 (by decide) ?_
  refine n_newaI (N := 64) 7 C ac_int (by decide) (by decide) (by decide) (by decide) dX1_init_7 (fun q1 => ?_)
  refine Nx.weq (ws' := (h0, (.inr (1, [.int 0, .int 0, .int 0, .null, .null, .null, .null]) : va_E)) :: ([(q1, (.inl (E.2.2.1 (nCls + 0), 64, .inl fun _ => 0) : va_E))])) (c' := 1) (s' := 64) rfl rfl rfl ?_
  refine n_putF (wr := [(q1, (.inl (E.2.2.1 (nCls + 0), 64, .inl fun _ => 0) : va_E))]) (fs' := [.int 0, .int 0, .int 0, .ref (q1), .null, .null, .null]) 9 C lff_X1_9 rfl rfl rfl (Nat.le_of_ble_eq_true rfl) rfl dX1_init_9 ?_
  refine n_aload0 12 C dX1_init_12 rfl ?_
  refine n_bipush (v := 64) 13 C dX1_init_13 (by decide) ?_
  refine n_newaI (N := 64) 15 C ac_int (by decide) (by decide) (by decide) (by decide) dX1_init_15 (fun q2 => ?_)
  refine Nx.weq (ws' := (h0, (.inr (1, [.int 0, .int 0, .int 0, .ref (q1), .null, .null, .null]) : va_E)) :: ([(q1, (.inl (E.2.2.1 (nCls + 0), 64, .inl fun _ => 0) : va_E))] ++ [(q2, (.inl (E.2.2.1 (nCls + 0), 64, .inl fun _ => 0) : va_E))])) (c' := 2) (s' := 128) rfl rfl rfl ?_
  refine n_putF (wr := [(q1, (.inl (E.2.2.1 (nCls + 0), 64, .inl fun _ => 0) : va_E))] ++ [(q2, (.inl (E.2.2.1 (nCls + 0), 64, .inl fun _ => 0) : va_E))]) (fs' := [.int 0, .int 0, .int 0, .ref (q1), .ref (q2), .null, .null]) 17 C lff_X1_15 rfl rfl rfl (Nat.le_of_ble_eq_true rfl) rfl dX1_init_17 ?_
  refine n_aload0 20 C dX1_init_20 rfl ?_
  refine n_bipush (v := 16) 21 C dX1_init_21 (by decide) ?_
  refine n_newaZ (N := 16) 23 C ac_boolean (by decide) (by decide) (by decide) (by decide) dX1_init_23 (fun q3 => ?_)
  refine Nx.weq (ws' := (h0, (.inr (1, [.int 0, .int 0, .int 0, .ref (q1), .ref (q2), .null, .null]) : va_E)) :: ([(q1, (.inl (E.2.2.1 (nCls + 0), 64, .inl fun _ => 0) : va_E))] ++ [(q2, (.inl (E.2.2.1 (nCls + 0), 64, .inl fun _ => 0) : va_E))] ++ [(q3, (.inl (E.2.2.1 (nCls + 1), 16, .inl fun _ => 0) : va_E))])) (c' := 3) (s' := 144) rfl rfl rfl ?_
  refine n_putF (wr := [(q1, (.inl (E.2.2.1 (nCls + 0), 64, .inl fun _ => 0) : va_E))] ++ [(q2, (.inl (E.2.2.1 (nCls + 0), 64, .inl fun _ => 0) : va_E))] ++ [(q3, (.inl (E.2.2.1 (nCls + 1), 16, .inl fun _ => 0) : va_E))]) (fs' := [.int 0, .int 0, .int 0, .ref (q1), .ref (q2), .ref (q3), .null]) 25 C lff_X1_18 rfl rfl rfl (Nat.le_of_ble_eq_true rfl) rfl dX1_init_25 ?_
  refine n_aload0 28 C dX1_init_28 rfl ?_
  refine n_bipush (v := 16) 29 C dX1_init_29 (by decide) ?_
  refine n_newaI (N := 16) 31 C ac_int (by decide) (by decide) (by decide) (by decide) dX1_init_31 (fun q4 => ?_)
  refine Nx.weq (ws' := (h0, (.inr (1, [.int 0, .int 0, .int 0, .ref (q1), .ref (q2), .ref (q3), .null]) : va_E)) :: ([(q1, (.inl (E.2.2.1 (nCls + 0), 64, .inl fun _ => 0) : va_E))] ++ [(q2, (.inl (E.2.2.1 (nCls + 0), 64, .inl fun _ => 0) : va_E))] ++ [(q3, (.inl (E.2.2.1 (nCls + 1), 16, .inl fun _ => 0) : va_E))] ++ [(q4, (.inl (E.2.2.1 (nCls + 0), 16, .inl fun _ => 0) : va_E))])) (c' := 4) (s' := 160) rfl rfl rfl ?_
  refine n_putF (wr := [(q1, (.inl (E.2.2.1 (nCls + 0), 64, .inl fun _ => 0) : va_E))] ++ [(q2, (.inl (E.2.2.1 (nCls + 0), 64, .inl fun _ => 0) : va_E))] ++ [(q3, (.inl (E.2.2.1 (nCls + 1), 16, .inl fun _ => 0) : va_E))] ++ [(q4, (.inl (E.2.2.1 (nCls + 0), 16, .inl fun _ => 0) : va_E))]) (fs' := [.int 0, .int 0, .int 0, .ref (q1), .ref (q2), .ref (q3), .ref (q4)]) 33 C lff_X1_22 rfl rfl rfl (Nat.le_of_ble_eq_true rfl) rfl dX1_init_33 ?_
  exact n_ret 36 C (fun j => if j < 1 then h0 else if j < 2 then q1 else if j < 3 then q2 else if j < 4 then q3 else q4) z0 rfl rfl [0, 1, 2, 3, 4] rfl (by decide) (by decide) dX1_init_36
theorem lob_X2 : Cond.methodLink RX2 3 objectInit ∈ lw_tbl := tb2 48 (by decide +kernel)
theorem lw_X2_9 : Lw RX2 9 0 [.null, .null, .null, .null, .null] 5 := ⟨RX0, TX0, tyX0, rfl, inX0, tyX0_ok, tb2 49 (by decide +kernel), tb1 81 (by decide +kernel), tb1 4 (by decide +kernel), fun j hj => match j, hj with | 0, _ => rfl | 1, _ => rfl | 2, _ => rfl | 3, _ => rfl | 4, _ => rfl | n + 5, h => absurd h (by omega)⟩
theorem lmi_X2_11 : Lm RX2 11 yX0_init := Or.inr ⟨"AuntsPuzzle", tb2 50 (by decide +kernel)⟩
theorem lc0_X0_init : Lc0 yX0_init cX0_init 1 := ⟨tb1 84 (by decide +kernel), tb1 83 (by decide +kernel), tb1 4 (by decide +kernel), rfl, by decide, by decide, by decide +kernel⟩
theorem lff_X2_12 : Lf RX2 12 2 0 (tyX2 0) := ⟨RX2, TX2, 2, tyX2, rfl, by decide, inX2, tb2 51 (by decide +kernel), tyX2_ok, nmX2, rfl, rfl, rfl⟩
def rho_Evening : Sg := fun a => if a < 1 then (fun _ => 0) else z0 (a - 1)
set_option maxRecDepth 100000 in
set_option maxHeartbeats 4000000 in
theorem i_X2_init {l : Launch} (E : En) : Ni l yX2_init cX2_init 1 2 6 85 E 2 [.null, .int 0] sh_Evening (fun ρ => ρ = rho_Evening) := by
  refine Ni.of RX2 rfl rfl (by decide) (by decide) (fun q h0 hq C => ?_)
  subst hq
  refine n_aload0 0 C dX2_init_0 rfl ?_
  refine n_obj 1 C lob_X2 lo (by decide) (Nat.le_of_ble_eq_true rfl) dX2_init_1 ?_
  refine n_aload0 4 C dX2_init_4 rfl ?_
  refine n_new 5 C lw_X2_9 (by decide) dX2_init_5 (fun q1 => ?_)
  refine Nx.weq (ws' := (h0, (.inr (2, [.null, .int 0]) : va_E)) :: ([(q1, (.inr (0, [.null, .null, .null, .null, .null]) : va_E))])) (c' := 1) (s' := 5) rfl rfl rfl ?_
  refine n_dup 8 C dX2_init_8 ?_
  refine n_callI (wr := (h0, (.inr (2, [.null, .int 0]) : va_E)) :: ([])) 9 C lmi_X2_11 lc0_X0_init (i_X0_init (l := mL q) E) rfl (by decide) (Nat.le_of_ble_eq_true rfl) dX2_init_9 (fun a2 ra2 ha hra2 => ?_)
  subst ha
  refine Nx.weq (ws' := (h0, (.inr (2, [.null, .int 0]) : va_E)) :: (wb E sh_Board a2 ra2)) (c' := 6) (s' := 85) rfl rfl rfl ?_
  refine n_putF (wr := wb E sh_Board a2 ra2) (fs' := [.ref (a2 0), .int 0]) 12 C lff_X2_12 rfl rfl rfl (Nat.le_of_ble_eq_true rfl) rfl dX2_init_12 ?_
  exact n_ret 15 C (fun j => if j < 1 then h0 else a2 (j - 1)) (fun a => if a < 1 then (fun _ => 0) else ra2 (a - 1)) rfl (by subst hra2; rfl) [0, 1, 2, 3, 4, 5, 6] rfl (by decide) (by decide) dX2_init_15
theorem lob_X4 : Cond.methodLink RX4 3 objectInit ∈ lw_tbl := tb1 115 (by decide +kernel)
theorem lff_X4_9 : Lf RX4 9 4 1 (tyX4 1) := ⟨RX4, TX4, 4, tyX4, rfl, by decide, inX4, tb1 120 (by decide +kernel), tyX4_ok, nmX4, rfl, rfl, rfl⟩
theorem lff_X4_15 : Lf RX4 15 4 2 (tyX4 2) := ⟨RX4, TX4, 4, tyX4, rfl, by decide, inX4, tb1 123 (by decide +kernel), tyX4_ok, nmX4, rfl, rfl, rfl⟩
theorem lff_X4_18 : Lf RX4 18 4 3 (tyX4 3) := ⟨RX4, TX4, 4, tyX4, rfl, by decide, inX4, tb1 126 (by decide +kernel), tyX4_ok, nmX4, rfl, rfl, rfl⟩
set_option maxRecDepth 100000 in
set_option maxHeartbeats 4000000 in
theorem i_X4_init {l : Launch} (E : En) : Ni l yX4_init cX4_init 1 1 3 18 E 4 [.int 0, .null, .null, .null] sh_People (fun ρ => ρ = z0) := by
  refine Ni.of RX4 rfl rfl (by decide) (by decide) (fun q h0 hq C => ?_)
  subst hq
  refine n_aload0 0 C dX4_init_0 rfl ?_
  refine n_obj 1 C lob_X4 lo (by decide) (Nat.le_of_ble_eq_true rfl) dX4_init_1 ?_
  refine n_aload0 4 C dX4_init_4 rfl ?_
  refine n_bipush (v := 6) 5 C dX4_init_5 (by decide) ?_
  refine n_newaI (N := 6) 7 C ac_int (by decide) (by decide) (by decide) (by decide) dX4_init_7 (fun q1 => ?_)
  refine Nx.weq (ws' := (h0, (.inr (4, [.int 0, .null, .null, .null]) : va_E)) :: ([(q1, (.inl (E.2.2.1 (nCls + 0), 6, .inl fun _ => 0) : va_E))])) (c' := 1) (s' := 6) rfl rfl rfl ?_
  refine n_putF (wr := [(q1, (.inl (E.2.2.1 (nCls + 0), 6, .inl fun _ => 0) : va_E))]) (fs' := [.int 0, .ref (q1), .null, .null]) 9 C lff_X4_9 rfl rfl rfl (Nat.le_of_ble_eq_true rfl) rfl dX4_init_9 ?_
  refine n_aload0 12 C dX4_init_12 rfl ?_
  refine n_bipush (v := 6) 13 C dX4_init_13 (by decide) ?_
  refine n_newaI (N := 6) 15 C ac_int (by decide) (by decide) (by decide) (by decide) dX4_init_15 (fun q2 => ?_)
  refine Nx.weq (ws' := (h0, (.inr (4, [.int 0, .ref (q1), .null, .null]) : va_E)) :: ([(q1, (.inl (E.2.2.1 (nCls + 0), 6, .inl fun _ => 0) : va_E))] ++ [(q2, (.inl (E.2.2.1 (nCls + 0), 6, .inl fun _ => 0) : va_E))])) (c' := 2) (s' := 12) rfl rfl rfl ?_
  refine n_putF (wr := [(q1, (.inl (E.2.2.1 (nCls + 0), 6, .inl fun _ => 0) : va_E))] ++ [(q2, (.inl (E.2.2.1 (nCls + 0), 6, .inl fun _ => 0) : va_E))]) (fs' := [.int 0, .ref (q1), .ref (q2), .null]) 17 C lff_X4_15 rfl rfl rfl (Nat.le_of_ble_eq_true rfl) rfl dX4_init_17 ?_
  refine n_aload0 20 C dX4_init_20 rfl ?_
  refine n_bipush (v := 6) 21 C dX4_init_21 (by decide) ?_
  refine n_newaI (N := 6) 23 C ac_int (by decide) (by decide) (by decide) (by decide) dX4_init_23 (fun q3 => ?_)
  refine Nx.weq (ws' := (h0, (.inr (4, [.int 0, .ref (q1), .ref (q2), .null]) : va_E)) :: ([(q1, (.inl (E.2.2.1 (nCls + 0), 6, .inl fun _ => 0) : va_E))] ++ [(q2, (.inl (E.2.2.1 (nCls + 0), 6, .inl fun _ => 0) : va_E))] ++ [(q3, (.inl (E.2.2.1 (nCls + 0), 6, .inl fun _ => 0) : va_E))])) (c' := 3) (s' := 18) rfl rfl rfl ?_
  refine n_putF (wr := [(q1, (.inl (E.2.2.1 (nCls + 0), 6, .inl fun _ => 0) : va_E))] ++ [(q2, (.inl (E.2.2.1 (nCls + 0), 6, .inl fun _ => 0) : va_E))] ++ [(q3, (.inl (E.2.2.1 (nCls + 0), 6, .inl fun _ => 0) : va_E))]) (fs' := [.int 0, .ref (q1), .ref (q2), .ref (q3)]) 25 C lff_X4_18 rfl rfl rfl (Nat.le_of_ble_eq_true rfl) rfl dX4_init_25 ?_
  exact n_ret 28 C (fun j => if j < 1 then h0 else if j < 2 then q1 else if j < 3 then q2 else q3) z0 rfl rfl [0, 1, 2, 3] rfl (by decide) (by decide) dX4_init_28
theorem lob_X3 : Cond.methodLink RX3 3 objectInit ∈ lw_tbl := tb1 33 (by decide +kernel)
theorem lw_X3_9 : Lw RX3 9 1 [.int 0, .int 0, .int 0, .null, .null, .null, .null] 7 := ⟨RX1, TX1, tyX1, rfl, inX1, tyX1_ok, tb1 34 (by decide +kernel), tb1 35 (by decide +kernel), tb1 3 (by decide +kernel), fun j hj => match j, hj with | 0, _ => rfl | 1, _ => rfl | 2, _ => rfl | 3, _ => rfl | 4, _ => rfl | 5, _ => rfl | 6, _ => rfl | n + 7, h => absurd h (by omega)⟩
theorem lmi_X3_11 : Lm RX3 11 yX1_init := Or.inr ⟨"AuntsPuzzle", tb1 36 (by decide +kernel)⟩
theorem lc0_X1_init : Lc0 yX1_init cX1_init 1 := ⟨tb1 38 (by decide +kernel), tb1 37 (by decide +kernel), tb1 3 (by decide +kernel), rfl, by decide, by decide, by decide +kernel⟩
theorem lff_X3_12 : Lf RX3 12 3 0 (tyX3 0) := ⟨RX3, TX3, 3, tyX3, rfl, by decide, inX3, tb1 149 (by decide +kernel), tyX3_ok, nmX3, rfl, rfl, rfl⟩
theorem lw_X3_18 : Lw RX3 18 0 [.null, .null, .null, .null, .null] 5 := ⟨RX0, TX0, tyX0, rfl, inX0, tyX0_ok, tb1 80 (by decide +kernel), tb1 81 (by decide +kernel), tb1 4 (by decide +kernel), fun j hj => match j, hj with | 0, _ => rfl | 1, _ => rfl | 2, _ => rfl | 3, _ => rfl | 4, _ => rfl | n + 5, h => absurd h (by omega)⟩
theorem lmi_X3_20 : Lm RX3 20 yX0_init := Or.inr ⟨"AuntsPuzzle", tb1 82 (by decide +kernel)⟩
theorem lff_X3_21 : Lf RX3 21 3 1 (tyX3 1) := ⟨RX3, TX3, 3, tyX3, rfl, by decide, inX3, tb1 156 (by decide +kernel), tyX3_ok, nmX3, rfl, rfl, rfl⟩
theorem lw_X3_25 : Lw RX3 25 4 [.int 0, .null, .null, .null] 4 := ⟨RX4, TX4, tyX4, rfl, inX4, tyX4_ok, tb1 110 (by decide +kernel), tb1 111 (by decide +kernel), tb1 5 (by decide +kernel), fun j hj => match j, hj with | 0, _ => rfl | 1, _ => rfl | 2, _ => rfl | 3, _ => rfl | n + 4, h => absurd h (by omega)⟩
theorem lmi_X3_27 : Lm RX3 27 yX4_init := Or.inr ⟨"AuntsPuzzle", tb1 112 (by decide +kernel)⟩
theorem lc0_X4_init : Lc0 yX4_init cX4_init 1 := ⟨tb1 114 (by decide +kernel), tb1 113 (by decide +kernel), tb1 5 (by decide +kernel), rfl, by decide, by decide, by decide +kernel⟩
theorem lff_X3_28 : Lf RX3 28 3 2 (tyX3 2) := ⟨RX3, TX3, 3, tyX3, rfl, by decide, inX3, tb1 163 (by decide +kernel), tyX3_ok, nmX3, rfl, rfl, rfl⟩
def sc_X3_init_X1_cutAnew : Int32 × Sg := (f_X1_cutAnew 2 3 3 z0).getD (0, z0)
theorem sc_X3_init_X1_cutAnew_ok : f_X1_cutAnew 2 3 3 z0 = some sc_X3_init_X1_cutAnew := by
  have h : (f_X1_cutAnew 2 3 3 z0).isSome = true := by decide +kernel
  unfold sc_X3_init_X1_cutAnew
  cases h2 : f_X1_cutAnew 2 3 3 z0 with
  | none => rw [h2] at h; cases h
  | some x => rfl
theorem bk_X3_init_2 : Bk [2, 3, 4, 5, 6] sh_Cut 2 := by
  intro j x hj
  have hl : j < 5 := (List.getElem?_eq_some_iff.mp hj).1
  match j, hl, hj with
  | 0, _, hj => cases hj; exact ⟨by decide, rfl⟩
  | 1, _, hj => cases hj; exact ⟨by decide, rfl⟩
  | 2, _, hj => cases hj; exact ⟨by decide, rfl⟩
  | 3, _, hj => cases hj; exact ⟨by decide, rfl⟩
  | 4, _, hj => cases hj; exact ⟨by decide, rfl⟩
  | n + 5, hl, _ => exact absurd hl (by omega)
def sc_X3_init_X0_clear : Int32 × Sg := (f_X0_clear 7  z0).getD (0, z0)
theorem sc_X3_init_X0_clear_ok : f_X0_clear 7  z0 = some sc_X3_init_X0_clear := by
  have h : (f_X0_clear 7  z0).isSome = true := by decide +kernel
  unfold sc_X3_init_X0_clear
  cases h2 : f_X0_clear 7  z0 with
  | none => rw [h2] at h; cases h
  | some x => rfl
theorem bk_X3_init_7 : Bk [7, 8, 9, 10, 11, 12] sh_Board 7 := by
  intro j x hj
  have hl : j < 6 := (List.getElem?_eq_some_iff.mp hj).1
  match j, hl, hj with
  | 0, _, hj => cases hj; exact ⟨by decide, rfl⟩
  | 1, _, hj => cases hj; exact ⟨by decide, rfl⟩
  | 2, _, hj => cases hj; exact ⟨by decide, rfl⟩
  | 3, _, hj => cases hj; exact ⟨by decide, rfl⟩
  | 4, _, hj => cases hj; exact ⟨by decide, rfl⟩
  | 5, _, hj => cases hj; exact ⟨by decide, rfl⟩
  | n + 6, hl, _ => exact absurd hl (by omega)
def rho_Game : Sg := fun a => if a < 1 then (fun _ => 0) else if a < 6 then sc_X3_init_X1_cutAnew.2 (a - 1 + 2) else if a < 12 then sc_X3_init_X0_clear.2 (a - 6 + 7) else z0 (a - 12)
set_option maxRecDepth 100000 in
set_option maxHeartbeats 4000000 in
theorem i_X3_init {l : Launch} (E : En) : Ni l yX3_init cX3_init 1 3 15 274 E 3 [.null, .null, .null] sh_Game (fun ρ => ρ = rho_Game) := by
  refine Ni.of RX3 rfl rfl (by decide) (by decide) (fun q h0 hq C => ?_)
  subst hq
  refine n_aload0 0 C dX3_init_0 rfl ?_
  refine n_obj 1 C lob_X3 lo (by decide) (Nat.le_of_ble_eq_true rfl) dX3_init_1 ?_
  refine n_aload0 4 C dX3_init_4 rfl ?_
  refine n_new 5 C lw_X3_9 (by decide) dX3_init_5 (fun q1 => ?_)
  refine Nx.weq (ws' := (h0, (.inr (3, [.null, .null, .null]) : va_E)) :: ([(q1, (.inr (1, [.int 0, .int 0, .int 0, .null, .null, .null, .null]) : va_E))])) (c' := 1) (s' := 7) rfl rfl rfl ?_
  refine n_dup 8 C dX3_init_8 ?_
  refine n_callI (wr := (h0, (.inr (3, [.null, .null, .null]) : va_E)) :: ([])) 9 C lmi_X3_11 lc0_X1_init (i_X1_init (l := mL q) E) rfl (by decide) (Nat.le_of_ble_eq_true rfl) dX3_init_9 (fun a2 ra2 ha hra2 => ?_)
  subst ha
  subst hra2
  refine Nx.weq (ws' := (h0, (.inr (3, [.null, .null, .null]) : va_E)) :: (wb E sh_Cut a2 z0)) (c' := 5) (s' := 167) rfl rfl rfl ?_
  refine n_putF (wr := wb E sh_Cut a2 z0) (fs' := [.ref (a2 0), .null, .null]) 12 C lff_X3_12 rfl rfl rfl (Nat.le_of_ble_eq_true rfl) rfl dX3_init_12 ?_
  refine n_aload0 15 C dX3_init_15 rfl ?_
  refine n_new 16 C lw_X3_18 (by decide) dX3_init_16 (fun q3 => ?_)
  refine Nx.weq (ws' := (h0, (.inr (3, [.ref (a2 0), .null, .null]) : va_E)) :: (wb E sh_Cut a2 z0 ++ [(q3, (.inr (0, [.null, .null, .null, .null, .null]) : va_E))])) (c' := 6) (s' := 172) rfl rfl rfl ?_
  refine n_dup 19 C dX3_init_19 ?_
  refine n_callI (wr := (h0, (.inr (3, [.ref (a2 0), .null, .null]) : va_E)) :: (wb E sh_Cut a2 z0)) 20 C lmi_X3_20 lc0_X0_init (i_X0_init (l := mL q) E) rfl (by decide) (Nat.le_of_ble_eq_true rfl) dX3_init_20 (fun a4 ra4 ha hra4 => ?_)
  subst ha
  subst hra4
  refine Nx.weq (ws' := (h0, (.inr (3, [.ref (a2 0), .null, .null]) : va_E)) :: (wb E sh_Cut a2 z0 ++ wb E sh_Board a4 z0)) (c' := 11) (s' := 252) rfl rfl rfl ?_
  refine n_putF (wr := wb E sh_Cut a2 z0 ++ wb E sh_Board a4 z0) (fs' := [.ref (a2 0), .ref (a4 0), .null]) 23 C lff_X3_21 rfl rfl rfl (Nat.le_of_ble_eq_true rfl) rfl dX3_init_23 ?_
  refine n_aload0 26 C dX3_init_26 rfl ?_
  refine n_new 27 C lw_X3_25 (by decide) dX3_init_27 (fun q5 => ?_)
  refine Nx.weq (ws' := (h0, (.inr (3, [.ref (a2 0), .ref (a4 0), .null]) : va_E)) :: (wb E sh_Cut a2 z0 ++ wb E sh_Board a4 z0 ++ [(q5, (.inr (4, [.int 0, .null, .null, .null]) : va_E))])) (c' := 12) (s' := 256) rfl rfl rfl ?_
  refine n_dup 30 C dX3_init_30 ?_
  refine n_callI (wr := (h0, (.inr (3, [.ref (a2 0), .ref (a4 0), .null]) : va_E)) :: (wb E sh_Cut a2 z0 ++ wb E sh_Board a4 z0)) 31 C lmi_X3_27 lc0_X4_init (i_X4_init (l := mL q) E) rfl (by decide) (Nat.le_of_ble_eq_true rfl) dX3_init_31 (fun a6 ra6 ha hra6 => ?_)
  subst ha
  subst hra6
  refine Nx.weq (ws' := (h0, (.inr (3, [.ref (a2 0), .ref (a4 0), .null]) : va_E)) :: (wb E sh_Cut a2 z0 ++ wb E sh_Board a4 z0 ++ wb E sh_People a6 z0)) (c' := 15) (s' := 274) rfl rfl rfl ?_
  refine n_putF (wr := wb E sh_Cut a2 z0 ++ wb E sh_Board a4 z0 ++ wb E sh_People a6 z0) (fs' := [.ref (a2 0), .ref (a4 0), .ref (a6 0)]) 34 C lff_X3_28 rfl rfl rfl (Nat.le_of_ble_eq_true rfl) rfl dX3_init_34 ?_
  refine n_aload0 37 C dX3_init_37 rfl ?_
  refine n_getF (wr := wb E sh_Cut a2 z0 ++ wb E sh_Board a4 z0 ++ wb E sh_People a6 z0) 38 C lk_X3_12 rfl rfl dX3_init_38 ?_
  refine n_iconst (v := 3) 41 C dX3_init_41 (by decide) ?_
  refine n_iconst (v := 3) 42 C dX3_init_42 (by decide) ?_
  refine Nx.perm (ws' := ((h0, (.inr (3, [.ref (a2 0), .ref (a4 0), .ref (a6 0)]) : va_E)) :: (wb E sh_Board a4 z0 ++ wb E sh_People a6 z0)) ++ wo (E.1, (fun k => a2 (k - 2)), E.2.2) [2, 3, 4, 5, 6] z0) [0, 6, 7, 8, 9, 10, 11, 12, 13, 14, 15, 1, 2, 3, 4, 5] rfl (by decide) ?_
  refine n_callM (L := [2, 3, 4, 5, 6]) (k := 2) (wr := (h0, (.inr (3, [.ref (a2 0), .ref (a4 0), .ref (a6 0)]) : va_E)) :: (wb E sh_Board a4 z0 ++ wb E sh_People a6 z0)) 43 C [.int 3, .int 3] lm_X3_32 ly_X1_cutAnew (bk_X3_init_2 0 _ rfl) (by decide) (m_X1_cutAnew 2 bk_X3_init_2 3 3 z0 sc_X3_init_X1_cutAnew sc_X3_init_X1_cutAnew_ok) rfl (by decide) rfl rfl (Nat.le_of_ble_eq_true rfl) dX3_init_43 ?_
  refine Nx.weq (ws' := (h0, (.inr (3, [.ref (a2 0), .ref (a4 0), .ref (a6 0)]) : va_E)) :: (wb E sh_Board a4 z0 ++ wb E sh_People a6 z0 ++ wo (E.1, (fun k => a2 (k - 2)), E.2.2) [2, 3, 4, 5, 6] sc_X3_init_X1_cutAnew.2)) (c' := 15) (s' := 274) rfl rfl rfl ?_
  refine n_aload0 46 C dX3_init_46 rfl ?_
  refine n_getF (wr := wb E sh_Board a4 z0 ++ wb E sh_People a6 z0 ++ wo (E.1, (fun k => a2 (k - 2)), E.2.2) [2, 3, 4, 5, 6] sc_X3_init_X1_cutAnew.2) 47 C lk_X3_21 rfl rfl dX3_init_47 ?_
  refine Nx.perm (ws' := ((h0, (.inr (3, [.ref (a2 0), .ref (a4 0), .ref (a6 0)]) : va_E)) :: (wb E sh_People a6 z0 ++ wo (E.1, (fun k => a2 (k - 2)), E.2.2) [2, 3, 4, 5, 6] sc_X3_init_X1_cutAnew.2)) ++ wo (E.1, (fun k => a4 (k - 7)), E.2.2) [7, 8, 9, 10, 11, 12] z0) [0, 7, 8, 9, 10, 11, 12, 13, 14, 15, 1, 2, 3, 4, 5, 6] rfl (by decide) ?_
  refine n_callM (L := [7, 8, 9, 10, 11, 12]) (k := 7) (wr := (h0, (.inr (3, [.ref (a2 0), .ref (a4 0), .ref (a6 0)]) : va_E)) :: (wb E sh_People a6 z0 ++ wo (E.1, (fun k => a2 (k - 2)), E.2.2) [2, 3, 4, 5, 6] sc_X3_init_X1_cutAnew.2)) 50 C [] lm_X3_36 ly_X0_clear (bk_X3_init_7 0 _ rfl) (by decide) (m_X0_clear 7 bk_X3_init_7  z0 sc_X3_init_X0_clear sc_X3_init_X0_clear_ok) rfl (by decide) rfl rfl (Nat.le_of_ble_eq_true rfl) dX3_init_50 ?_
  refine Nx.weq (ws' := (h0, (.inr (3, [.ref (a2 0), .ref (a4 0), .ref (a6 0)]) : va_E)) :: (wb E sh_People a6 z0 ++ wo (E.1, (fun k => a2 (k - 2)), E.2.2) [2, 3, 4, 5, 6] sc_X3_init_X1_cutAnew.2 ++ wo (E.1, (fun k => a4 (k - 7)), E.2.2) [7, 8, 9, 10, 11, 12] sc_X3_init_X0_clear.2)) (c' := 15) (s' := 274) rfl rfl rfl ?_
  exact n_ret 53 C (fun j => if j < 1 then h0 else if j < 6 then a2 (j - 1) else if j < 12 then a4 (j - 6) else a6 (j - 12)) (fun a => if a < 1 then (fun _ => 0) else if a < 6 then sc_X3_init_X1_cutAnew.2 (a - 1 + 2) else if a < 12 then sc_X3_init_X0_clear.2 (a - 6 + 7) else z0 (a - 12)) rfl (by  rfl) [0, 5, 6, 7, 8, 9, 10, 11, 12, 13, 14, 15, 1, 2, 3, 4] rfl (by decide) (by decide) dX3_init_53
theorem lob_X5 : Cond.methodLink RX5 3 objectInit ∈ lw_tbl := tb2 31 (by decide +kernel)
theorem lff_X5_9 : Lf RX5 9 5 0 (tyX5 0) := ⟨RX5, TX5, 3, tyX5, rfl, by decide, inX5, tb2 32 (by decide +kernel), tyX5_ok, nmX5, rfl, rfl, rfl⟩
theorem lff_X5_15 : Lf RX5 15 5 1 (tyX5 1) := ⟨RX5, TX5, 3, tyX5, rfl, by decide, inX5, tb2 33 (by decide +kernel), tyX5_ok, nmX5, rfl, rfl, rfl⟩
theorem lff_X5_18 : Lf RX5 18 5 2 (tyX5 2) := ⟨RX5, TX5, 3, tyX5, rfl, by decide, inX5, tb2 35 (by decide +kernel), tyX5_ok, nmX5, rfl, rfl, rfl⟩
set_option maxRecDepth 100000 in
set_option maxHeartbeats 4000000 in
theorem i_X5_init {l : Launch} (E : En) : Ni l yX5_init cX5_init 1 1 3 30 E 5 [.null, .null, .null] sh_Pile (fun ρ => ρ = z0) := by
  refine Ni.of RX5 rfl rfl (by decide) (by decide) (fun q h0 hq C => ?_)
  subst hq
  refine n_aload0 0 C dX5_init_0 rfl ?_
  refine n_obj 1 C lob_X5 lo (by decide) (Nat.le_of_ble_eq_true rfl) dX5_init_1 ?_
  refine n_aload0 4 C dX5_init_4 rfl ?_
  refine n_bipush (v := 10) 5 C dX5_init_5 (by decide) ?_
  refine n_newaI (N := 10) 7 C ac_int (by decide) (by decide) (by decide) (by decide) dX5_init_7 (fun q1 => ?_)
  refine Nx.weq (ws' := (h0, (.inr (5, [.null, .null, .null]) : va_E)) :: ([(q1, (.inl (E.2.2.1 (nCls + 0), 10, .inl fun _ => 0) : va_E))])) (c' := 1) (s' := 10) rfl rfl rfl ?_
  refine n_putF (wr := [(q1, (.inl (E.2.2.1 (nCls + 0), 10, .inl fun _ => 0) : va_E))]) (fs' := [.ref (q1), .null, .null]) 9 C lff_X5_9 rfl rfl rfl (Nat.le_of_ble_eq_true rfl) rfl dX5_init_9 ?_
  refine n_aload0 12 C dX5_init_12 rfl ?_
  refine n_bipush (v := 10) 13 C dX5_init_13 (by decide) ?_
  refine n_newaI (N := 10) 15 C ac_int (by decide) (by decide) (by decide) (by decide) dX5_init_15 (fun q2 => ?_)
  refine Nx.weq (ws' := (h0, (.inr (5, [.ref (q1), .null, .null]) : va_E)) :: ([(q1, (.inl (E.2.2.1 (nCls + 0), 10, .inl fun _ => 0) : va_E))] ++ [(q2, (.inl (E.2.2.1 (nCls + 0), 10, .inl fun _ => 0) : va_E))])) (c' := 2) (s' := 20) rfl rfl rfl ?_
  refine n_putF (wr := [(q1, (.inl (E.2.2.1 (nCls + 0), 10, .inl fun _ => 0) : va_E))] ++ [(q2, (.inl (E.2.2.1 (nCls + 0), 10, .inl fun _ => 0) : va_E))]) (fs' := [.ref (q1), .ref (q2), .null]) 17 C lff_X5_15 rfl rfl rfl (Nat.le_of_ble_eq_true rfl) rfl dX5_init_17 ?_
  refine n_aload0 20 C dX5_init_20 rfl ?_
  refine n_bipush (v := 10) 21 C dX5_init_21 (by decide) ?_
  refine n_newaI (N := 10) 23 C ac_int (by decide) (by decide) (by decide) (by decide) dX5_init_23 (fun q3 => ?_)
  refine Nx.weq (ws' := (h0, (.inr (5, [.ref (q1), .ref (q2), .null]) : va_E)) :: ([(q1, (.inl (E.2.2.1 (nCls + 0), 10, .inl fun _ => 0) : va_E))] ++ [(q2, (.inl (E.2.2.1 (nCls + 0), 10, .inl fun _ => 0) : va_E))] ++ [(q3, (.inl (E.2.2.1 (nCls + 0), 10, .inl fun _ => 0) : va_E))])) (c' := 3) (s' := 30) rfl rfl rfl ?_
  refine n_putF (wr := [(q1, (.inl (E.2.2.1 (nCls + 0), 10, .inl fun _ => 0) : va_E))] ++ [(q2, (.inl (E.2.2.1 (nCls + 0), 10, .inl fun _ => 0) : va_E))] ++ [(q3, (.inl (E.2.2.1 (nCls + 0), 10, .inl fun _ => 0) : va_E))]) (fs' := [.ref (q1), .ref (q2), .ref (q3)]) 25 C lff_X5_18 rfl rfl rfl (Nat.le_of_ble_eq_true rfl) rfl dX5_init_25 ?_
  exact n_ret 28 C (fun j => if j < 1 then h0 else if j < 2 then q1 else if j < 3 then q2 else q3) z0 rfl rfl [0, 1, 2, 3] rfl (by decide) (by decide) dX5_init_28
theorem lob_X6 : Cond.methodLink RX6 3 objectInit ∈ lw_tbl := tb1 216 (by decide +kernel)
theorem lw_X6_9 : Lw RX6 9 0 [.null, .null, .null, .null, .null] 5 := ⟨RX0, TX0, tyX0, rfl, inX0, tyX0_ok, tb1 217 (by decide +kernel), tb1 81 (by decide +kernel), tb1 4 (by decide +kernel), fun j hj => match j, hj with | 0, _ => rfl | 1, _ => rfl | 2, _ => rfl | 3, _ => rfl | 4, _ => rfl | n + 5, h => absurd h (by omega)⟩
theorem lmi_X6_11 : Lm RX6 11 yX0_init := Or.inr ⟨"AuntsPuzzle", tb1 218 (by decide +kernel)⟩
theorem lff_X6_12 : Lf RX6 12 6 0 (tyX6 0) := ⟨RX6, TX6, 5, tyX6, rfl, by decide, inX6, tb1 219 (by decide +kernel), tyX6_ok, nmX6, rfl, rfl, rfl⟩
theorem lff_X6_18 : Lf RX6 18 6 1 (tyX6 1) := ⟨RX6, TX6, 5, tyX6, rfl, by decide, inX6, tb1 220 (by decide +kernel), tyX6_ok, nmX6, rfl, rfl, rfl⟩
def rho_Search : Sg := fun a => if a < 1 then (fun _ => 0) else if a < 7 then z0 (a - 1) else z0 (a - 7)
set_option maxRecDepth 100000 in
set_option maxHeartbeats 4000000 in
theorem i_X6_init {l : Launch} (E : En) : Ni l yX6_init cX6_init 1 2 12 170 E 6 [.null, .null, .int 0, .int 0, .int 0] sh_Search (fun ρ => ρ = rho_Search) := by
  refine Ni.of RX6 rfl rfl (by decide) (by decide) (fun q h0 hq C => ?_)
  subst hq
  refine n_aload0 0 C dX6_init_0 rfl ?_
  refine n_obj 1 C lob_X6 lo (by decide) (Nat.le_of_ble_eq_true rfl) dX6_init_1 ?_
  refine n_aload0 4 C dX6_init_4 rfl ?_
  refine n_new 5 C lw_X6_9 (by decide) dX6_init_5 (fun q1 => ?_)
  refine Nx.weq (ws' := (h0, (.inr (6, [.null, .null, .int 0, .int 0, .int 0]) : va_E)) :: ([(q1, (.inr (0, [.null, .null, .null, .null, .null]) : va_E))])) (c' := 1) (s' := 5) rfl rfl rfl ?_
  refine n_dup 8 C dX6_init_8 ?_
  refine n_callI (wr := (h0, (.inr (6, [.null, .null, .int 0, .int 0, .int 0]) : va_E)) :: ([])) 9 C lmi_X6_11 lc0_X0_init (i_X0_init (l := mL q) E) rfl (by decide) (Nat.le_of_ble_eq_true rfl) dX6_init_9 (fun a2 ra2 ha hra2 => ?_)
  subst ha
  refine Nx.weq (ws' := (h0, (.inr (6, [.null, .null, .int 0, .int 0, .int 0]) : va_E)) :: (wb E sh_Board a2 ra2)) (c' := 6) (s' := 85) rfl rfl rfl ?_
  refine n_putF (wr := wb E sh_Board a2 ra2) (fs' := [.ref (a2 0), .null, .int 0, .int 0, .int 0]) 12 C lff_X6_12 rfl rfl rfl (Nat.le_of_ble_eq_true rfl) rfl dX6_init_12 ?_
  refine n_aload0 15 C dX6_init_15 rfl ?_
  refine n_new 16 C lw_X6_9 (by decide) dX6_init_16 (fun q3 => ?_)
  refine Nx.weq (ws' := (h0, (.inr (6, [.ref (a2 0), .null, .int 0, .int 0, .int 0]) : va_E)) :: (wb E sh_Board a2 ra2 ++ [(q3, (.inr (0, [.null, .null, .null, .null, .null]) : va_E))])) (c' := 7) (s' := 90) rfl rfl rfl ?_
  refine n_dup 19 C dX6_init_19 ?_
  refine n_callI (wr := (h0, (.inr (6, [.ref (a2 0), .null, .int 0, .int 0, .int 0]) : va_E)) :: (wb E sh_Board a2 ra2)) 20 C lmi_X6_11 lc0_X0_init (i_X0_init (l := mL q) E) rfl (by decide) (Nat.le_of_ble_eq_true rfl) dX6_init_20 (fun a4 ra4 ha hra4 => ?_)
  subst ha
  refine Nx.weq (ws' := (h0, (.inr (6, [.ref (a2 0), .null, .int 0, .int 0, .int 0]) : va_E)) :: (wb E sh_Board a2 ra2 ++ wb E sh_Board a4 ra4)) (c' := 12) (s' := 170) rfl rfl rfl ?_
  refine n_putF (wr := wb E sh_Board a2 ra2 ++ wb E sh_Board a4 ra4) (fs' := [.ref (a2 0), .ref (a4 0), .int 0, .int 0, .int 0]) 23 C lff_X6_18 rfl rfl rfl (Nat.le_of_ble_eq_true rfl) rfl dX6_init_23 ?_
  exact n_ret 26 C (fun j => if j < 1 then h0 else if j < 7 then a2 (j - 1) else a4 (j - 7)) (fun a => if a < 1 then (fun _ => 0) else if a < 7 then ra2 (a - 1) else ra4 (a - 7)) rfl (by subst hra2; subst hra4; rfl) [0, 1, 2, 3, 4, 5, 6, 7, 8, 9, 10, 11, 12] rfl (by decide) (by decide) dX6_init_26
theorem lob_X7 : Cond.methodLink RX7 3 objectInit ∈ lw_tbl := tb1 181 (by decide +kernel)
theorem lff_X7_9 : Lf RX7 9 7 0 (tyX7 0) := ⟨RX7, TX7, 4, tyX7, rfl, by decide, inX7, tb1 182 (by decide +kernel), tyX7_ok, nmX7, rfl, rfl, rfl⟩
set_option maxRecDepth 100000 in
set_option maxHeartbeats 4000000 in
theorem i_X7_init {l : Launch} (E : En) : Ni l yX7_init cX7_init 1 1 1 64 E 7 [.null, .int 0, .int 0, .int 0] sh_Tape (fun ρ => ρ = z0) := by
  refine Ni.of RX7 rfl rfl (by decide) (by decide) (fun q h0 hq C => ?_)
  subst hq
  refine n_aload0 0 C dX7_init_0 rfl ?_
  refine n_obj 1 C lob_X7 lo (by decide) (Nat.le_of_ble_eq_true rfl) dX7_init_1 ?_
  refine n_aload0 4 C dX7_init_4 rfl ?_
  refine n_bipush (v := 64) 5 C dX7_init_5 (by decide) ?_
  refine n_newaC (N := 64) 7 C ac_char (by decide) (by decide) (by decide) (by decide) dX7_init_7 (fun q1 => ?_)
  refine Nx.weq (ws' := (h0, (.inr (7, [.null, .int 0, .int 0, .int 0]) : va_E)) :: ([(q1, (.inl (E.2.2.1 (nCls + 2), 64, .inl fun _ => 0) : va_E))])) (c' := 1) (s' := 64) rfl rfl rfl ?_
  refine n_putF (wr := [(q1, (.inl (E.2.2.1 (nCls + 2), 64, .inl fun _ => 0) : va_E))]) (fs' := [.ref (q1), .int 0, .int 0, .int 0]) 9 C lff_X7_9 rfl rfl rfl (Nat.le_of_ble_eq_true rfl) rfl dX7_init_9 ?_
  exact n_ret 12 C (fun j => if j < 1 then h0 else q1) z0 rfl rfl [0, 1] rfl (by decide) (by decide) dX7_init_12
theorem lob_X8 : Cond.methodLink RX8 3 objectInit ∈ lw_tbl := tb1 202 (by decide +kernel)
theorem lff_X8_9 : Lf RX8 9 8 0 (tyX8 0) := ⟨RX8, TX8, 2, tyX8, rfl, by decide, inX8, tb1 203 (by decide +kernel), tyX8_ok, nmX8, rfl, rfl, rfl⟩
set_option maxRecDepth 100000 in
set_option maxHeartbeats 4000000 in
theorem i_X8_init {l : Launch} (E : En) : Ni l yX8_init cX8_init 1 1 1 16 E 8 [.null, .int 0] sh_Told (fun ρ => ρ = z0) := by
  refine Ni.of RX8 rfl rfl (by decide) (by decide) (fun q h0 hq C => ?_)
  subst hq
  refine n_aload0 0 C dX8_init_0 rfl ?_
  refine n_obj 1 C lob_X8 lo (by decide) (Nat.le_of_ble_eq_true rfl) dX8_init_1 ?_
  refine n_aload0 4 C dX8_init_4 rfl ?_
  refine n_bipush (v := 16) 5 C dX8_init_5 (by decide) ?_
  refine n_newaI (N := 16) 7 C ac_int (by decide) (by decide) (by decide) (by decide) dX8_init_7 (fun q1 => ?_)
  refine Nx.weq (ws' := (h0, (.inr (8, [.null, .int 0]) : va_E)) :: ([(q1, (.inl (E.2.2.1 (nCls + 0), 16, .inl fun _ => 0) : va_E))])) (c' := 1) (s' := 16) rfl rfl rfl ?_
  refine n_putF (wr := [(q1, (.inl (E.2.2.1 (nCls + 0), 16, .inl fun _ => 0) : va_E))]) (fs' := [.ref (q1), .int 0]) 9 C lff_X8_9 rfl rfl rfl (Nat.le_of_ble_eq_true rfl) rfl dX8_init_9 ?_
  exact n_ret 12 C (fun j => if j < 1 then h0 else q1) z0 rfl rfl [0, 1] rfl (by decide) (by decide) dX8_init_12
theorem lob_X9 : Cond.methodLink RX9 3 objectInit ∈ lw_tbl := tb2 4 (by decide +kernel)
theorem lw_X9_9 : Lw RX9 9 3 [.null, .null, .null] 3 := ⟨RX3, TX3, tyX3, rfl, inX3, tyX3_ok, tb2 5 (by decide +kernel), tb1 29 (by decide +kernel), tb1 2 (by decide +kernel), fun j hj => match j, hj with | 0, _ => rfl | 1, _ => rfl | 2, _ => rfl | n + 3, h => absurd h (by omega)⟩
theorem lmi_X9_11 : Lm RX9 11 yX3_init := Or.inr ⟨"AuntsPuzzle", tb2 6 (by decide +kernel)⟩
theorem lc0_X3_init : Lc0 yX3_init cX3_init 1 := ⟨tb1 32 (by decide +kernel), tb1 31 (by decide +kernel), tb1 2 (by decide +kernel), rfl, by decide, by decide, by decide +kernel⟩
theorem lff_X9_12 : Lf RX9 12 9 0 (tyX9 0) := ⟨RX9, TX9, 6, tyX9, rfl, by decide, inX9, tb2 7 (by decide +kernel), tyX9_ok, nmX9, rfl, rfl, rfl⟩
theorem lff_X9_18 : Lf RX9 18 9 1 (tyX9 1) := ⟨RX9, TX9, 6, tyX9, rfl, by decide, inX9, tb2 8 (by decide +kernel), tyX9_ok, nmX9, rfl, rfl, rfl⟩
theorem lff_X9_22 : Lf RX9 22 9 2 (tyX9 2) := ⟨RX9, TX9, 6, tyX9, rfl, by decide, inX9, tb2 9 (by decide +kernel), tyX9_ok, nmX9, rfl, rfl, rfl⟩
def rho_Work : Sg := fun a => if a < 1 then (fun _ => 0) else if a < 17 then rho_Game (a - 1) else if a < 18 then (fun _ => 0) else (fun _ => 0)
set_option maxRecDepth 100000 in
set_option maxHeartbeats 4000000 in
theorem i_X9_init {l : Launch} (E : En) : Ni l yX9_init cX9_init 1 4 18 357 E 9 [.null, .null, .null, .int 0, .int 0, .int 0] sh_Work (fun ρ => ρ = rho_Work) := by
  refine Ni.of RX9 rfl rfl (by decide) (by decide) (fun q h0 hq C => ?_)
  subst hq
  refine n_aload0 0 C dX9_init_0 rfl ?_
  refine n_obj 1 C lob_X9 lo (by decide) (Nat.le_of_ble_eq_true rfl) dX9_init_1 ?_
  refine n_aload0 4 C dX9_init_4 rfl ?_
  refine n_new 5 C lw_X9_9 (by decide) dX9_init_5 (fun q1 => ?_)
  refine Nx.weq (ws' := (h0, (.inr (9, [.null, .null, .null, .int 0, .int 0, .int 0]) : va_E)) :: ([(q1, (.inr (3, [.null, .null, .null]) : va_E))])) (c' := 1) (s' := 3) rfl rfl rfl ?_
  refine n_dup 8 C dX9_init_8 ?_
  refine n_callI (wr := (h0, (.inr (9, [.null, .null, .null, .int 0, .int 0, .int 0]) : va_E)) :: ([])) 9 C lmi_X9_11 lc0_X3_init (i_X3_init (l := mL q) E) rfl (by decide) (Nat.le_of_ble_eq_true rfl) dX9_init_9 (fun a2 ra2 ha hra2 => ?_)
  subst ha
  refine Nx.weq (ws' := (h0, (.inr (9, [.null, .null, .null, .int 0, .int 0, .int 0]) : va_E)) :: (wb E sh_Game a2 ra2)) (c' := 16) (s' := 277) rfl rfl rfl ?_
  refine n_putF (wr := wb E sh_Game a2 ra2) (fs' := [.ref (a2 0), .null, .null, .int 0, .int 0, .int 0]) 12 C lff_X9_12 rfl rfl rfl (Nat.le_of_ble_eq_true rfl) rfl dX9_init_12 ?_
  refine n_aload0 15 C dX9_init_15 rfl ?_
  refine n_bipush (v := 16) 16 C dX9_init_16 (by decide) ?_
  refine n_newaI (N := 16) 18 C ac_int (by decide) (by decide) (by decide) (by decide) dX9_init_18 (fun q3 => ?_)
  refine Nx.weq (ws' := (h0, (.inr (9, [.ref (a2 0), .null, .null, .int 0, .int 0, .int 0]) : va_E)) :: (wb E sh_Game a2 ra2 ++ [(q3, (.inl (E.2.2.1 (nCls + 0), 16, .inl fun _ => 0) : va_E))])) (c' := 17) (s' := 293) rfl rfl rfl ?_
  refine n_putF (wr := wb E sh_Game a2 ra2 ++ [(q3, (.inl (E.2.2.1 (nCls + 0), 16, .inl fun _ => 0) : va_E))]) (fs' := [.ref (a2 0), .ref (q3), .null, .int 0, .int 0, .int 0]) 20 C lff_X9_18 rfl rfl rfl (Nat.le_of_ble_eq_true rfl) rfl dX9_init_20 ?_
  refine n_aload0 23 C dX9_init_23 rfl ?_
  refine n_bipush (v := 64) 24 C dX9_init_24 (by decide) ?_
  refine n_newaI (N := 64) 26 C ac_int (by decide) (by decide) (by decide) (by decide) dX9_init_26 (fun q4 => ?_)
  refine Nx.weq (ws' := (h0, (.inr (9, [.ref (a2 0), .ref (q3), .null, .int 0, .int 0, .int 0]) : va_E)) :: (wb E sh_Game a2 ra2 ++ [(q3, (.inl (E.2.2.1 (nCls + 0), 16, .inl fun _ => 0) : va_E))] ++ [(q4, (.inl (E.2.2.1 (nCls + 0), 64, .inl fun _ => 0) : va_E))])) (c' := 18) (s' := 357) rfl rfl rfl ?_
  refine n_putF (wr := wb E sh_Game a2 ra2 ++ [(q3, (.inl (E.2.2.1 (nCls + 0), 16, .inl fun _ => 0) : va_E))] ++ [(q4, (.inl (E.2.2.1 (nCls + 0), 64, .inl fun _ => 0) : va_E))]) (fs' := [.ref (a2 0), .ref (q3), .ref (q4), .int 0, .int 0, .int 0]) 28 C lff_X9_22 rfl rfl rfl (Nat.le_of_ble_eq_true rfl) rfl dX9_init_28 ?_
  exact n_ret 31 C (fun j => if j < 1 then h0 else if j < 17 then a2 (j - 1) else if j < 18 then q3 else q4) (fun a => if a < 1 then (fun _ => 0) else if a < 17 then ra2 (a - 1) else if a < 18 then (fun _ => 0) else (fun _ => 0)) rfl (by subst hra2; rfl) [0, 1, 2, 3, 4, 5, 6, 7, 8, 9, 10, 11, 12, 13, 14, 15, 16, 17, 18] rfl (by decide) (by decide) dX9_init_31
