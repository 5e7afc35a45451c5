/-! THE CLAIM OUT OF ONE WALK OF THE LAW'S BODY. Your part is whole_start (and what it stands on); all else here is the same for every law, but numbers. -/
def R_law : String := "AuntsPuzzleLaw"
def lw_P (b : Addr) (xs : List Int32) (args : Array Value) (s : State) : Prop := args = #[.ref b] ∧ s.IntsAt b xs ∧ xs.length ≤ 320 ∧ (Jvm.Cond.and given_1 narrow_1).before args s = true
def lw_Q (_ : Array Value) (s : State) (o : Outcome) (t : State) : Prop := o = .returned (some (.int 1)) ∧ Framed s o t [] 600000 7302250
def lw_Z (below : List Frame) (a : Array Value) (s : State) : State → Prop := fun t => ∃ o, t.status = .running ∧ Ended t below o ∧ lw_Q a s o t
/-- the law's own end, with 1 on the stack, nothing written that was there before, its room as the claim has it -/
theorem lw_ret {p : Program} {l : Launch} {e : Env} {s : State} {m : MethodId} {below : List Frame} {meth : Method} {c : Code} {b : Nat} (hx : p.tables.exec = Jvm.exec) (hb : c.code = code) (hr : meth.sig.returnType = ret) (hlocks : meth.locks = false) {pc : Nat} {H : Heap} {ls : Array Slot} (hdg : decode code pc = .ok (.ireturn, 1)) : W p l e room_1 s m #[Value.ref b] below meth c H [] 600000 7302250 (lw_Z below #[Value.ref b] s) (F0 m pc ls [.int 1]) := by
  intro T hT X
  obtain ⟨fs, hret, hrun, hended, hW, hframe⟩ := X.leave (v := some (.int 1)) (hlocks := hlocks) (fun h => by rw [hr] at h; cases h)
  have hmeth' : T.vm.method? m = some meth := X.method'
  refine ⟨T.setFrames fs, ?_, .returned (some (.int 1)), hrun, hended, rfl, ⟨_, rfl⟩, hW, hframe⟩
  jvm_step X.here [X.here.top, hx, hb, hdg, hmeth', hr, ret, narrow_b1]
  (try refine ⟨rfl, ?_⟩); (try refine ⟨rfl, ?_⟩)
  first | (intro acts; rw [hret _ acts rfl rfl rfl]) | rw [hret _ _ rfl rfl rfl]
  exact Steps.refl _
/-- what holds at the law's entry: the machine, the code, the tables' words (any of lw_tbl by 'hts w (by decide +kernel)'), the script of L ints xs at the cell b, what the Statement gives of the start (any of its parts by flat_of_before) -/
def lw_At (p : Program) (s : State) (m : MethodId) (meth : Method) (c : Code) (b L : Nat) (xs : Nat → Int32) : Prop :=
  p.tables.exec = Jvm.exec ∧ c.code = code ∧ meth.sig.returnType = ret ∧ c.maxLocals = 4 ∧ s.vm.findClass R_law = some m.cls ∧ (∀ w ∈ lw_tbl, w.before #[Value.ref b] s = true) ∧ va_X b L xs s s.heap ∧ b < s.heap.size ∧ meth.locks = false ∧ (Jvm.Cond.and given_1 narrow_1).before #[Value.ref b] s = true

theorem lw_L_10 : Lw RL 7 10 [.null, .null, .null, .null, .null, .null, .null, .null, .null, .null, .null, .int 0, .int 0] 13 := ⟨RX10, TX10, tyX10, rfl, inX10, tyX10_ok, tb1 20 (by decide +kernel), tb1 21 (by decide +kernel), tb1 1 (by decide +kernel), fun j hj => match j, hj with | 0, _ => rfl | 1, _ => rfl | 2, _ => rfl | 3, _ => rfl | 4, _ => rfl | 5, _ => rfl | 6, _ => rfl | 7, _ => rfl | 8, _ => rfl | 9, _ => rfl | 10, _ => rfl | 11, _ => rfl | 12, _ => rfl | n + 13, h => absurd h (by omega)⟩
theorem lmi_L_10 : Lm RL 9 yX10_init := Or.inl (tb1 22 (by decide +kernel))
theorem lc0_X10_init : Lc0 yX10_init cX10_init 1 := ⟨tb1 24 (by decide +kernel), tb1 23 (by decide +kernel), tb1 1 (by decide +kernel), rfl, by decide, by decide, by decide +kernel⟩
theorem lw_L_11 : Lw RL 10 11 [.null, .null, .null, .null, .null, .null, .null, .null, .null, .null, .null, .int 0, .int 0, .int 0, .int 0, .null, .null, .null, .null, .null, .null, .int 0, .int 0, .int 0, .null, .int 0, .int 0, .int 0, .null, .null, .int 0, .int 0, .int 0, .null, .null, .int 0, .int 0, .int 0, .null, .int 0] 40 := ⟨RX11, TX11, tyX11, rfl, inX11, tyX11_ok, tb4 213 (by decide +kernel), tb4 214 (by decide +kernel), tb1 12 (by decide +kernel), fun j hj => match j, hj with | 0, _ => rfl | 1, _ => rfl | 2, _ => rfl | 3, _ => rfl | 4, _ => rfl | 5, _ => rfl | 6, _ => rfl | 7, _ => rfl | 8, _ => rfl | 9, _ => rfl | 10, _ => rfl | 11, _ => rfl | 12, _ => rfl | 13, _ => rfl | 14, _ => rfl | 15, _ => rfl | 16, _ => rfl | 17, _ => rfl | 18, _ => rfl | 19, _ => rfl | 20, _ => rfl | 21, _ => rfl | 22, _ => rfl | 23, _ => rfl | 24, _ => rfl | 25, _ => rfl | 26, _ => rfl | 27, _ => rfl | 28, _ => rfl | 29, _ => rfl | 30, _ => rfl | 31, _ => rfl | 32, _ => rfl | 33, _ => rfl | 34, _ => rfl | 35, _ => rfl | 36, _ => rfl | 37, _ => rfl | 38, _ => rfl | 39, _ => rfl | n + 40, h => absurd h (by omega)⟩
theorem lmi_L_11 : Lm RL 12 yX11_init := Or.inl (tb4 215 (by decide +kernel))
theorem lc0_X11_init : Lc0 yX11_init cX11_init 1 := ⟨tb4 217 (by decide +kernel), tb4 216 (by decide +kernel), tb1 12 (by decide +kernel), rfl, by decide, by decide, by decide +kernel⟩
theorem st_arr {s : State} {a : Array Value} {ty : FieldType} (h : (Cond.arrayClass ty).before a s = true) (hr : ∀ cA : ClassId, s.vm.findClass ("[" ++ ty.toString) = some cA → va_RA s cA ty) : ∃ cA : ClassId, ArrOfT s cA ty ∧ va_RA s cA ty := by
  obtain ⟨cA, kA, comp, h1, h2, h3⟩ := Cond.arrayClass_spec h
  exact ⟨cA, fun n z => ⟨fun k h => (by cases h), kA, h2, comp, h3⟩, hr cA h1⟩
def tmS (i : Nat) : Term := .string RX7 (strIx.getD i 0)
theorem sk_ex : ∀ i, i < 7 → Cond.exactly (tmS i) "java/lang/String" ∈ flatC (Jvm.Cond.and given_1 narrow_1) := by decide +kernel
theorem sk_co : ∀ i, i < 7 → Cond.eq (.field (tmS i) "java/lang/String" "coder" "B") (.int 0) ∈ flatC (Jvm.Cond.and given_1 narrow_1) := by decide +kernel
theorem sk_ar : ∀ i, i < 7 → Cond.arrayOf (.field (tmS i) "java/lang/String" "value" "[B") .byte ∈ flatC (Jvm.Cond.and given_1 narrow_1) := by decide +kernel
theorem sk_le : ∀ i, i < 7 → Cond.eq (.length (.field (tmS i) "java/lang/String" "value" "[B")) (.int (Int32.ofNat (strLen.getD i 0))) ∈ flatC (Jvm.Cond.and given_1 narrow_1) := by decide +kernel
theorem sk_el : ∀ i, i < 7 → ∀ j, j < strLen.getD i 0 → Cond.eq (.elem (.field (tmS i) "java/lang/String" "value" "[B") (.int (Int32.ofNat j))) (.int ((strByt.getD i []).getD j 0)) ∈ flatC (Jvm.Cond.and given_1 narrow_1) := by decide +kernel
theorem sk_ne : ∀ i, i < 7 → ∀ j, j < 7 → i ≠ j → Cond.not (Cond.eq (tmS i) (tmS j)) ∈ flatC (Jvm.Cond.and given_1 narrow_1) ∨ Cond.not (Cond.eq (tmS j) (tmS i)) ∈ flatC (Jvm.Cond.and given_1 narrow_1) := by decide +kernel
theorem sk_st : Cond.eq (.static "java/lang/String" "COMPACT_STRINGS" "Z") (.int 1) ∈ flatC (Jvm.Cond.and given_1 narrow_1) := by decide +kernel
theorem sk_re : ∀ i, i < 7 → Cond.stringRef RX7 (strIx.getD i 0) (strTx.getD i "") ∈ lw_tbl := by decide +kernel
/-- what the Statement gives of the start is what the worlds need -/
theorem st_facts {s : State} {b : Nat} (hts : ∀ w ∈ lw_tbl, w.before #[Value.ref b] s = true) (hgv : (Jvm.Cond.and given_1 narrow_1).before #[Value.ref b] s = true) : ∃ E : En, Sx E (fun x => s.heap.size ≤ x) s s.heap := by
  have hs := flat_of_before _ hgv
  have hT : Tb s := by
    intro w hw ho a
    by_cases hg : goodWord w = true
    · exact word_at (State.WarmedH.refl s) (good_of_word hg) (hts w hw)
    · have h0 := hts w hw
      cases w <;> first
        | exact va_Nw.use rfl (va_Nw.of rfl h0)
        | (exfalso; simp [wd_ok, hg] at ho; done)
  obtain ⟨c0, i0, k0⟩ := u_known (C := RX0) (T := TX0) (N := 5) (n := 5) hts inX0 (hts (.instantiable RX0 5) (tb1 81 (by decide +kernel)))
  obtain ⟨c1, i1, k1⟩ := u_known (C := RX1) (T := TX1) (N := 7) (n := 7) hts inX1 (hts (.instantiable RX1 7) (tb1 35 (by decide +kernel)))
  obtain ⟨c2, i2, k2⟩ := u_known (C := RX2) (T := TX2) (N := 2) (n := 2) hts inX2 (hts (.instantiable RX2 2) (tb2 44 (by decide +kernel)))
  obtain ⟨c3, i3, k3⟩ := u_known (C := RX3) (T := TX3) (N := 3) (n := 3) hts inX3 (hts (.instantiable RX3 3) (tb1 29 (by decide +kernel)))
  obtain ⟨c4, i4, k4⟩ := u_known (C := RX4) (T := TX4) (N := 4) (n := 4) hts inX4 (hts (.instantiable RX4 4) (tb1 111 (by decide +kernel)))
  obtain ⟨c5, i5, k5⟩ := u_known (C := RX5) (T := TX5) (N := 3) (n := 3) hts inX5 (hts (.instantiable RX5 3) (tb2 27 (by decide +kernel)))
  obtain ⟨c6, i6, k6⟩ := u_known (C := RX6) (T := TX6) (N := 5) (n := 5) hts inX6 (hts (.instantiable RX6 5) (tb1 212 (by decide +kernel)))
  obtain ⟨c7, i7, k7⟩ := u_known (C := RX7) (T := TX7) (N := 4) (n := 4) hts inX7 (hts (.instantiable RX7 4) (tb1 177 (by decide +kernel)))
  obtain ⟨c8, i8, k8⟩ := u_known (C := RX8) (T := TX8) (N := 2) (n := 2) hts inX8 (hts (.instantiable RX8 2) (tb1 198 (by decide +kernel)))
  obtain ⟨c9, i9, k9⟩ := u_known (C := RX9) (T := TX9) (N := 6) (n := 6) hts inX9 (hts (.instantiable RX9 6) (tb2 0 (by decide +kernel)))
  obtain ⟨c10, i10, k10⟩ := u_known (C := RX10) (T := TX10) (N := 13) (n := 13) hts inX10 (hts (.instantiable RX10 13) (tb1 21 (by decide +kernel)))
  obtain ⟨c11, i11, k11⟩ := u_known (C := RX11) (T := TX11) (N := 40) (n := 40) hts inX11 (hts (.instantiable RX11 40) (tb4 214 (by decide +kernel)))
  obtain ⟨cI, aI, rI⟩ := st_arr (ty := .int) (hts _ (tb1 78 (by decide +kernel))) (fun cA h => h)
  obtain ⟨cZ, aZ, rZ⟩ := st_arr (ty := .boolean) (hts _ (tb1 79 (by decide +kernel))) (fun cA h => h)
  obtain ⟨cC, aC, rC⟩ := st_arr (ty := .char) (hts _ (tb1 196 (by decide +kernel))) (fun cA h => h)
  have hA : ∀ a : Nat, a < s.heap.size → ¬ (fun x => s.heap.size ≤ x) a := fun a h => Nat.not_le.mpr h
  obtain ⟨adK, adV, hS, hE⟩ := vk_Sof (N := 7) (tm := tmS) (len := strLen) (byt := strByt) (A := fun x => s.heap.size ≤ x) (by decide) (fun i hi => hs _ (sk_ex i hi)) (fun i hi => hs _ (sk_co i hi)) (fun i hi => hs _ (sk_ar i hi)) (fun i hi => hs _ (sk_le i hi)) (fun i hi j hj => hs _ (sk_el i hi j hj)) (fun i j hi hj hne => (sk_ne i hi j hj hne).imp (hs _) (hs _)) hA
  refine ⟨((fun k => match k with | 0 => c0 | 1 => c1 | 2 => c2 | 3 => c3 | 4 => c4 | 5 => c5 | 6 => c6 | 7 => c7 | 8 => c8 | 9 => c9 | 10 => c10 | _ => c11, fun k => match k with | 0 => i0 | 1 => i1 | 2 => i2 | 3 => i3 | 4 => i4 | 5 => i5 | 6 => i6 | 7 => i7 | 8 => i8 | 9 => i9 | 10 => i10 | _ => i11), (fun _ => 0), (fun t => if t = nCls then cI else if t = nCls + 1 then cZ else cC), adK, adV), hT, ⟨?_, ?_⟩, hS, fun i hi => vk_R.of (hts _ (sk_re i hi)) (hE i hi), va_Zof (hts _ (tb2 165 (by decide +kernel))) (hts _ (tb1 14 (by decide +kernel))) (va_eqt (hs _ sk_st)) hA⟩
  · intro k q hq
    match k, hq with
    | 0, hq => cases hq; exact k0
    | 1, hq => cases hq; exact k1
    | 2, hq => cases hq; exact k2
    | 3, hq => cases hq; exact k3
    | 4, hq => cases hq; exact k4
    | 5, hq => cases hq; exact k5
    | 6, hq => cases hq; exact k6
    | 7, hq => cases hq; exact k7
    | 8, hq => cases hq; exact k8
    | 9, hq => cases hq; exact k9
    | 10, hq => cases hq; exact k10
    | 11, hq => cases hq; exact k11
    | k + 12, hq => simp at hq
  · intro k q hq
    match k, hq with
    | 0, hq => cases hq; exact ⟨aI, rI⟩
    | 1, hq => cases hq; exact ⟨aZ, rZ⟩
    | 2, hq => cases hq; exact ⟨aC, rC⟩
    | k + 3, hq => simp [tysE] at hq
section KR
variable {q : Mc} {E : En} {b Ln : Nat} {xs : Nat → Int32} {cc : ByteArray} {nL : Nat} {own : String} {Q : State → Prop} {c s : Nat} {lv : List (Nat × Value)} {st : List Value} {ws : va_W}
theorem kr_iconst (pc : Nat) (C : Cl q E b Ln xs cc nL own) {n : Int} {v : Int32} (hd : decode cc pc = .ok (.iconst n, 1)) (hv : Int32.ofInt n = v) (kk : Nx q E (newA q) nL Q (pc + 1) lv (.int v :: st) ws c s) : Nx q E (newA q) nL Q pc lv st ws c s := fun H locs ls h1 h2 h3 h4 => lv_iconst C.1 C.2.1 hd hv (kk H locs ls h1 h2 h3 h4)
theorem kr_dup (pc : Nat) (C : Cl q E b Ln xs cc nL own) {x : Nat} (hd : decode cc pc = .ok (.dup, 1)) (kk : Nx q E (newA q) nL Q (pc + 1) lv (.ref x :: .ref x :: st) ws c s) : Nx q E (newA q) nL Q pc lv (.ref x :: st) ws c s := fun H locs ls h1 h2 h3 h4 => lv_dup C.1 C.2.1 hd rfl (kk H locs ls h1 h2 h3 h4)
theorem kr_istore (pc : Nat) (C : Cl q E b Ln xs cc nL own) {k : Fin 4} {i : Nat} {x : Int32} {lv' : List (Nat × Value)} (hd : decode cc pc = .ok (.istore_n k, 1)) (hi : (k : Nat) = i) (hn : i < nL) (hg : (lgood lv i && lnd lv) = true) (hs : lset lv i (.int x) = lv') (kk : Nx q E (newA q) nL Q (pc + 1) lv' st ws c s) : Nx q E (newA q) nL Q pc lv (.int x :: st) ws c s := fun H locs ls h1 h2 h3 h4 => lv_istore_n C.1 C.2.1 hd hi h1 hn rfl (fun ls2 hl2 => kk H locs ls2 (by rw [← hs]; exact lset_has (Bool.and_eq_true_iff.mp hg).1 (Bool.and_eq_true_iff.mp hg).2 hl2) h2 h3 h4)
theorem kr_astore (pc : Nat) (C : Cl q E b Ln xs cc nL own) {k : Fin 4} {i : Nat} {x : Nat} {lv' : List (Nat × Value)} (hd : decode cc pc = .ok (.astore_n k, 1)) (hi : (k : Nat) = i) (hn : i < nL) (hg : (lgood lv i && lnd lv) = true) (hs : lset lv i (.ref x) = lv') (kk : Nx q E (newA q) nL Q (pc + 1) lv' st ws c s) : Nx q E (newA q) nL Q pc lv (.ref x :: st) ws c s := fun H locs ls h1 h2 h3 h4 => lv_astore_n C.1 C.2.1 hd hi h1 hn rfl (fun ls2 hl2 => kk H locs ls2 (by rw [← hs]; exact lset_has (Bool.and_eq_true_iff.mp hg).1 (Bool.and_eq_true_iff.mp hg).2 hl2) h2 h3 h4)
theorem kr_new (pc : Nat) (C : Cl q E b Ln xs cc nL own) {idx ci N : Nat} {fs : List Value} (hl : Lw own idx ci fs N) (hm : c + 1 ≤ 600000 ∧ s + N ≤ 7302250) (hd : decode cc pc = .ok (.new idx, 3)) (kk : ∀ a : Nat, Nx q E (newA q) nL Q (pc + 3) lv (.ref a :: st) (ws ++ [(a, .inr (ci, fs))]) (c + 1) (s + N)) : Nx q E (newA q) nL Q pc lv st ws c s := fun H locs ls h1 h2 h3 h4 => by
  obtain ⟨Cl, T, t0, w1, w2, w3, w4, w5, w6, w7⟩ := hl
  exact va_new C.1 C.2.1 (Ts := lw_tbl.filter wd_ok) C.ts (u_ws_ok w2) t0 w3 C.2.2.2.1 (C.tb w4 rfl _) (C.tb w5 rfl _) (C.tb w6 rfl _) C.K h2 h3 h4 (fun x h => h) w1 w7 (by rw [C.2.2.2.2.1]; exact hm.1) (by rw [C.2.2.2.2.1]; exact hm.2) hd (fun a H1 g2 g3 g4 => kk a H1 locs ls h1 g2 g3 g4)
theorem kr_callI (pc : Nat) (C : Cl q E b Ln xs cc nL own) {idx : Nat} {y : MethodName} {cb : ByteArray} {maxL d' mc' ms' ci h1 : Nat} {fs : List Value} {Post : Nat → va_W → Prop} {wr : va_W} (hm : Lm own idx y) (hy : Lc0 y cb maxL) (hN : Niw (mL q) y cb maxL d' mc' ms' E ci fs Post) (hws : ws = wr ++ [(h1, .inr (ci, fs))]) (hr : d' ≤ 100 ∧ maxL ≤ 40 ∧ c + mc' ≤ 600000 ∧ s + ms' ≤ 7302250) (hst : (st.map fun v => v.category).sum ≤ 8) (hd : decode cc pc = .ok (.invokespecial idx, 3))
    (kk : ∀ w1 : va_W, Post h1 w1 → Nx q E (newA q) nL Q (pc + 3) lv st (wr ++ w1) (c + mc') (s + ms')) : Nx q E (newA q) nL Q pc lv (.ref h1 :: st) ws c s := by
  intro H locs ls g1 g2 g3 g4
  subst hws
  obtain ⟨w1, w2, w3, w4, w5, w6, w7⟩ := hy
  have hR : (rmn d' mc' ms').frames + 1 ≤ (mR q).frames ∧ 8 + (maxL + 11) + (rmn d' mc' ms').locals ≤ (mR q).locals := by
    rw [C.2.2.2.2.1]
    show d' + 1 ≤ 2048 ∧ 8 + (maxL + 11) + 60 * d' ≤ 84000
    omega
  have hcs : c + mc' ≤ (mR q).cells ∧ s + ms' ≤ (mR q).slots := by
    rw [C.2.2.2.2.1]
    exact ⟨hr.2.2.1, hr.2.2.2⟩
  have hin : (wr ++ [(h1, (.inr (ci, fs) : va_E))])[wr.length]? = some (h1, .inr (ci, fs)) := by simp
  have hF : ∀ x, va_A [(h1, .inr (ci, fs))] H.size x → newA q x := by
    intro x h
    rcases h with ⟨k, e, h⟩ | h
    · have a1 : k < 1 := (List.getElem?_eq_some_iff.mp h).1
      rw [show k = 0 by omega] at h
      cases h
      exact g3.2 _ _ hin
    · exact Nat.le_trans g4.1 h
  have hp : PreS (mS q) H (va_Pc [.ref h1] (Pn E ci fs h1 H.size)) (.ref h1 :: []) := ⟨Pn.blind, fun U hU hW => ⟨rfl, by rw [hU], by
    rw [hU]
    intro k x hk
    have a1 : k < 1 := (List.getElem?_eq_some_iff.mp hk).1
    rw [show k = 0 by omega] at hk
    cases hk
    exact g2 _ _ hin, by rw [hU]; exact ((C.2.2.2.2.2.2.2.warm hW).kept g4.2.1).narrow hF⟩⟩
  have fin : ∀ {a : Array Value}, va_Run (mP q) (mL q) (mE q) (mR q) (mS q) (mM q) (mA q) (mB q) (mH q) (mC q) H locs c s mc' ms' (F0 (mM q) pc ls (.ref h1 :: st)) st (Qw E (va_A [(h1, .inr (ci, fs))] H.size) (Post h1) a) (va_A [(h1, .inr (ci, fs))] H.size) → W (mP q) (mL q) (mE q) (mR q) (mS q) (mM q) (mA q) (mB q) (mH q) (mC q) H locs c s Q (F0 (mM q) pc ls (.ref h1 :: st)) := by
    intro a hr T hT X
    obtain ⟨v, st₀, t, T', L', h0, X', hL, e1, e2, ⟨hv, ⟨w1, hw, p1, p2⟩, hz, hk⟩, stp⟩ := hr T hT X
    cases hv
    rw [h0] at hz hk
    obtain ⟨j1, j2⟩ := nj (F := va_A [(h1, .inr (ci, fs))] H.size) g2 g3 (H1 := T'.heap) (fun x a1 a2 => by rw [e1]; exact hk x a1 a2) (fun x h => h) hF (by rw [e1]; exact p1) p2
    obtain ⟨t2, a1, b1⟩ := kk w1 hw T'.heap (locs ++ L') ls g1 j1 j2
      ⟨Nat.le_trans g4.1 (by rw [e1]; exact hz), fun x a1 a2 => by rw [e1, hk x (Nat.lt_of_lt_of_le a1 g4.1) (fun h => a2 (hF x h))]; exact g4.2.1 x a1 a2, fun x hx => by
        rcases List.mem_append.mp hx with h | h
        · exact g4.2.2 x h
        · exact hF _ (hL x h)⟩ T' rfl X'
    exact ⟨t2, stp t2 a1, b1⟩
  rcases hm with hm | ⟨host, hm⟩
  · exact fin (va_runI (As := []) (rest := st) (nL := nL) (n := 0) (b := h1) ⟨C.1, C.2.1, C.2.2.1, C.2.2.2.1, C.ts⟩ (hN h1 H.size) ⟨callB_of (Ts := lw_tbl.filter wd_ok) 0 C.ts (good_code w1) rfl rfl rfl (C.tb w3 rfl _) (C.tb hm rfl _) ⟨w5, w6, w7⟩ hR, w4, C.tb w2 rfl _⟩ hp rfl rfl g1.1 rfl (lv_room hst) hd hcs)
  · exact fin (va_runIN (As := []) (rest := st) (nL := nL) (n := 0) (b := h1) ⟨C.1, C.2.1, C.2.2.1, C.2.2.2.1, C.ts⟩ (hN h1 H.size) ⟨va_cnB (Ts := lw_tbl.filter wd_ok) 0 C.ts (good_code w1) rfl rfl rfl (va_Nw.of rfl (C.tb hm rfl (mA q))) (C.tb w3 rfl _) ⟨w5, w6, w7⟩ hR, w4, C.tb w2 rfl _⟩ hp rfl rfl g1.1 rfl (lv_room hst) hd hcs)
end KR
/-- the same cells, said by two tables that agree on them -/
theorem wo_eq (E : En) {ad ad' : Nat → Nat} {σ σ' : Sg} {L : List Nat} (h : ∀ k ∈ L, ad k = ad' k ∧ σ k = σ' k ∧ ∀ d, some d ∈ fo (lay k).1 → ad (k + d) = ad' (k + d)) : wo (E.1, ad, E.2.2) L σ = wo (E.1, ad', E.2.2) L σ' := by
  unfold wo
  apply List.map_congr_left
  intro k hk
  obtain ⟨h1, h2, h3⟩ := h k hk
  show (ad k, ent (E.1, ad, E.2.2) σ k) = (ad' k, ent (E.1, ad', E.2.2) σ' k)
  rw [h1]
  congr 1
  unfold ent
  rw [h2]
  have := fl_shift (ad := ad') (as := ad) (σ := σ') (ρ := σ) (k := 0) (j := k) (by rw [Nat.zero_add]; exact h2.symm) (fo (lay k).1) 0 (fun d hd => by rw [Nat.zero_add]; exact (h3 d hd).symm)
  rw [Nat.zero_add] at this
  rw [show (E.1, ad, E.2.2).2.1 = ad from rfl, show (E.1, ad', E.2.2).2.1 = ad' from rfl, this]
