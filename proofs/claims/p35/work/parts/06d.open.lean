/-! from the law's entry to its end, out of ONE pure fact: the law's pure function answers 1 on the start's σ -/
theorem fo_in : ∀ k, k < 103 → (fo (lay k).1).all (fun x => match x with
  | some d => decide (k + d < 103)
  | none => true) = true := by decide +kernel
abbrev sgX : Sg := rho_AuntsPuzzle
abbrev sgM : Sg := sc_X11_init_X11_anew.2
theorem wo_two (E : En) (ad1 ad2 : Nat → Nat) : wo (E.1, ad1, E.2.2) LX sgX ++ wo (E.1, ad2, E.2.2) LM sgM = wo (E.1, (fun k => if k < 103 then ad1 k else ad2 k), E.2.2) LX sgX ++ wo (E.1, (fun k => if k < 103 then ad1 k else ad2 k), E.2.2) LM sgM := by
  have h1 : wo (E.1, ad1, E.2.2) LX sgX = wo (E.1, (fun k => if k < 103 then ad1 k else ad2 k), E.2.2) LX sgX := wo_eq E (fun k hk => by
    have hk : k < 103 := List.mem_range.mp hk
    refine ⟨(if_pos hk).symm, rfl, fun d hd => ?_⟩
    have := List.all_eq_true.mp (fo_in k hk) (some d) hd
    simp only [decide_eq_true_eq] at this
    exact (if_pos this).symm)
  have h2 : wo (E.1, ad2, E.2.2) LM sgM = wo (E.1, (fun k => if k < 103 then ad1 k else ad2 k), E.2.2) LM sgM := wo_eq E (fun k hk => by
    have h : ∀ k ∈ LM, ¬ k < 103 := by decide
    have hk := h k hk
    refine ⟨(if_neg hk).symm, rfl, fun d hd => ?_⟩
    exact (if_neg (show ¬ k + d < 103 by omega)).symm)
  rw [h1, h2]
set_option maxHeartbeats 4000000 in
set_option maxRecDepth 100000 in
theorem whole_open {p : Program} {e : Env} {s : State} {m : MethodId} {below : List Frame} {meth : Method} {c : Code} (l : Launch) {b L : Nat} {xs : Nat → Int32} (C0 : lw_At p s m meth c b L xs) (hpure : ∃ σ' : Sg, f_L_law_b18 xs L fu 0 sgX sgM = some (1, σ')) : W p l e room_1 s m #[Value.ref b] below meth c s.heap [] 0 0 (lw_Z below #[Value.ref b] s) (entryFrame m ([Value.ref b] : List Value).toArray 4) := by
  obtain ⟨hx, hb, hr, hml, hown, hts, hX, hbl, hlocks, hgv⟩ := id C0
  obtain ⟨E, hSx⟩ := st_facts hts hgv
  obtain ⟨σ', hpure⟩ := hpure
  obtain ⟨q, hq⟩ : ∃ q : Mc, q = (p, l, e, room_1, s, m, #[Value.ref b], below, meth, c) := ⟨_, rfl⟩
  have C : Cl q E b L xs cL_law 4 RL := by subst hq; exact ⟨hx, hb, hml, hown, rfl, hX, hbl, hSx⟩
  have key : Nx q E (newA q) 4 (lw_Z below #[Value.ref b] s) 0 [(0, .ref b)] [] [] 0 0 := by
    refine kr_new 0 C lw_L_10 (by decide) dL_law_0 (fun q0 => ?_)
    refine kr_dup 3 C dL_law_3 ?_
    refine kr_callI (wr := []) 4 C lmi_L_10 lc0_X10_init (i_X10_init (l := mL q) E) rfl (by decide) (Nat.le_of_ble_eq_true rfl) dL_law_4 (fun w1 hw1 => ?_)
    obtain ⟨ad1, ha1, rfl⟩ := hw1
    refine kr_astore (lv' := [(0, .ref b), (1, .ref q0)]) 7 C dL_law_7 rfl (by decide) rfl rfl ?_
    refine kr_new 8 C lw_L_11 (by decide) dL_law_8 (fun q1 => ?_)
    refine kr_dup 11 C dL_law_11 ?_
    refine kr_callI (wr := [] ++ wo (E.1, ad1, E.2.2) (List.range 103) rho_AuntsPuzzle) 12 C lmi_L_11 lc0_X11_init (i_X11_init (l := mL q) E) rfl (by decide) (Nat.le_of_ble_eq_true rfl) dL_law_12 (fun w2 hw2 => ?_)
    obtain ⟨ad2, ha2, rfl⟩ := hw2
    refine kr_astore (lv' := [(0, .ref b), (1, .ref q0), (2, .ref q1)]) 15 C dL_law_15 rfl (by decide) rfl rfl ?_
    refine kr_iconst (v := 0) 16 C dL_law_16 (by decide) ?_
    refine kr_istore (lv' := [(0, .ref b), (1, .ref q0), (2, .ref q1), (3, .int 0)]) 17 C dL_law_17 rfl (by decide) rfl rfl ?_
    refine Nx.weq (ws' := wo (E.1, (fun k => if k < 103 then ad1 k else ad2 k), E.2.2) LX sgX ++ wo (E.1, (fun k => if k < 103 then ad1 k else ad2 k), E.2.2) LM sgM) (c' := 127) (s' := 2709) (by rw [List.nil_append]; exact wo_two E ad1 ad2) rfl rfl ?_
    have C2 : Cl q (E.1, (fun k => if k < 103 then ad1 k else ad2 k), E.2.2) b L xs cL_law 4 RL := C
    have hend : ∀ (σ τ : Sg) (lv : List (Nat × Value)), some ((1 : Int32), σ) = some ((1 : Int32), σ') → Lx q (E.1, (fun k => if k < 103 then ad1 k else ad2 k), E.2.2) 4 (lw_Z below #[Value.ref b] s) 127 2709 1120 lv [.int 1] σ τ := by
      intro σ τ lv _ H locs ls g1 g2 g3 g4
      subst hq
      refine va_forget (fun x hx => g4.2.2 x hx) ?_
      refine W.widen (k := 600000) (n := 7302250) (by decide) (by decide) ?_
      exact lw_ret hx hb hr hlocks dL_law_1120
    have kl := k_L_law_b18 C2 (by decide) hend fu 0 sgX sgM hpure
    have e1 : (fun k => if k < 103 then ad1 k else ad2 k) 0 = q0 := ha1
    have e2 : (fun k => if k < 103 then ad1 k else ad2 k) 103 = q1 := ha2
    intro H locs ls g1 g2 g3 g4
    exact kl H locs ls (by show lv_has ls 4 [(0, .ref b), (1, .ref ((fun k => if k < 103 then ad1 k else ad2 k) 0)), (2, .ref ((fun k => if k < 103 then ad1 k else ad2 k) 103)), (3, .int 0)]; rw [e1, e2]; exact g1) g2 g3 g4
  have hl := lv_entry [Value.ref b] (n := 4) (Nat.le_of_ble_eq_true rfl)
  rw [lg_entry_eq]
  subst hq
  exact key s.heap [] _ hl (fun k x h => by simp at h) ⟨fun i j x y h => by simp at h, fun k x h => by simp at h⟩ va_S.rf
