/-! rows of Vx for the String constants: i is the constant's place (0 .. 6), its bytes lie outside of the world -/
def p_srd (i : Nat) (x : Int32) (K : Int32 → Rs) : Rs := if ix x (strLen.getD i 0) = true then K ((strByt.getD i []).getD x.toNatClampNeg 0) else none
/-- y is a method of String, with n parameters -/
def Ls (y : MethodName) (cb : ByteArray) (maxL : Nat) (rt : Option FieldType) (n : Nat) : Prop := y.cls = "java/lang/String" ∧ Cond.code y cb maxL rt ∈ lw_tbl ∧ Cond.instanceMethod y ∈ lw_tbl ∧ Cond.selects y.cls y y ∈ lw_tbl ∧ Cond.initialized y.cls ∈ lw_tbl ∧ y.cls ≠ "java/lang/invoke/MethodHandle" ∧ y.cls ≠ "java/lang/invoke/VarHandle" ∧ (parseMethodDescriptor y.desc).map (fun d => d.parameters.length) = some n
section VS
variable {q : Mc} {E : En} {L : List Nat} {cc : ByteArray} {nL : Nat} {own : String} {ret : Option FieldType} {d : Nat} {o : Int32 × Sg} {lv : List (Nat × Value)} {st : List Value} {σ : Sg}
theorem Cx.J (C : Cx q E L cc nL own ret d) : Jx E (inL E L) (mS q) (mS q).heap := C.2.2.2.2.2.2.2.2.2
theorem v_gstat (pc : Nat) (C : Cx q E L cc nL own ret d) {idx : Nat} (hl : Cond.fieldLink own idx "java/lang/String" "COMPACT_STRINGS" "Z" ∈ lw_tbl) (hd : decode cc pc = .ok (.getstatic idx, 3)) (kk : Vx q E L nL ret o (pc + 3) lv (.int 1 :: st) σ) : Vx q E L nL ret o pc lv st σ := fun H locs ls h1 h2 h3 h4 =>
  va_gets C.1 C.2.1 C.J.2.2 h4 C.2.2.2.1 (C.tb hl rfl _) (fun _ h => h) hd (kk H locs ls h1 h2 h3 h4)
theorem v_scod (pc : Nat) (C : Cx q E L cc nL own ret d) {idx i : Nat} (hi : i < 7) (hl : Cond.fieldLink own idx "java/lang/String" "coder" "B" ∈ lw_tbl) (hd : decode cc pc = .ok (.getfield idx, 3)) (kk : Vx q E L nL ret o (pc + 3) lv (.int 0 :: st) σ) : Vx q E L nL ret o pc lv (.ref (E.2.2.2.1 i) :: st) σ := fun H locs ls h1 h2 h3 h4 =>
  vk_getf C.1 C.2.1 (C.J.1.1 i hi).2.1 h4 C.2.2.2.1 (C.tb hl rfl _) (fun _ h => h) hd (kk H locs ls h1 h2 h3 h4)
theorem v_sval (pc : Nat) (C : Cx q E L cc nL own ret d) {idx i : Nat} (hi : i < 7) (hl : Cond.fieldLink own idx "java/lang/String" "value" "[B" ∈ lw_tbl) (hd : decode cc pc = .ok (.getfield idx, 3)) (kk : Vx q E L nL ret o (pc + 3) lv (.ref (E.2.2.2.2 i) :: st) σ) : Vx q E L nL ret o pc lv (.ref (E.2.2.2.1 i) :: st) σ := fun H locs ls h1 h2 h3 h4 =>
  vk_getf C.1 C.2.1 (C.J.1.1 i hi).2.2.1 h4 C.2.2.2.1 (C.tb hl rfl _) (fun _ h => h) hd (kk H locs ls h1 h2 h3 h4)
theorem v_slen (pc : Nat) (C : Cx q E L cc nL own ret d) {i : Nat} (hi : i < 7) (hd : decode cc pc = .ok (.arraylength, 1)) (kk : Vx q E L nL ret o (pc + 1) lv (.int (Int32.ofNat (strLen.getD i 0)) :: st) σ) : Vx q E L nL ret o pc lv (.ref (E.2.2.2.2 i) :: st) σ := fun H locs ls h1 h2 h3 h4 =>
  va_tlen C.1 C.2.1 (C.J.1.1 i hi).2.2.2 h4 rfl hd (kk H locs ls h1 h2 h3 h4)
theorem v_sbal (pc : Nat) (C : Cx q E L cc nL own ret d) {i : Nat} {x : Int32} {K : Int32 → Rs} (hi : i < 7) (hd : decode cc pc = .ok (.baload, 1)) (hf : p_srd i x K = some o) (kk : ∀ v : Int32, K v = some o → Vx q E L nL ret o (pc + 1) lv (.int v :: st) σ) : Vx q E L nL ret o pc lv (.int x :: .ref (E.2.2.2.2 i) :: st) σ := by
  unfold p_srd at hf
  split at hf
  · next hx => exact fun H locs ls h1 h2 h3 h4 => va_tb C.1 C.2.1 (C.J.1.1 i hi).2.2.2 h4 (ix_in hx) rfl hd (kk _ hf H locs ls h1 h2 h3 h4)
  · cases hf
theorem v_i2b (pc : Nat) (C : Cx q E L cc nL own ret d) {x : Int32} (hd : decode cc pc = .ok (.i2b, 1)) (kk : Vx q E L nL ret o (pc + 1) lv (.int x.toInt8.toInt32 :: st) σ) : Vx q E L nL ret o pc lv (.int x :: st) σ := fun H locs ls h1 h2 h3 h4 => lv_i2b C.1 C.2.1 hd rfl (kk H locs ls h1 h2 h3 h4)
theorem v_bretN (pc : Nat) (C : Cx q E L cc nL own ret d) (hr : ret = some .byte) (hd : decode cc pc = .ok (.ireturn, 1)) {r : Int32} (hn : narrow .byte (.int r) = .int r) (hf : some (r, σ) = some o) : Vx q E L nL ret o pc lv [.int r] σ := by
  intro H locs ls h1 h2 h3 h4
  cases hf
  subst hr
  exact W.zret C.1 C.2.1 C.2.2.2.2.1 hn (fun t ht hW => ⟨rfl, ⟨by rw [ht]; exact h2, h3, by rw [ht]; exact (C.2.2.2.2.2.2.2.warm hW).kept h4.2.1⟩, h4.F ht⟩) h4.2.2 hd (hlocks := C.2.2.2.2.2.1)
theorem v_callT (pc : Nat) (C : Cx q E L cc nL own ret d) {idx : Nat} {y : MethodName} {n i maxL d' : Nat} {cb : ByteArray} {rt : Option FieldType} {f : Rs} {K : Int32 → Sg → Rs} {stk : List Value} (As : List Value) (hm : Cond.methodLink own idx y ∈ lw_tbl) (hy : Ls y cb maxL rt n) (hi : i < 7) (hd : decode cc pc = .ok (.invokevirtual idx, 3)) (hn : As.length = n) (hr : d' + 1 ≤ d ∧ maxL ≤ 40) (hs : stk = As.reverse ++ .ref (E.2.2.2.1 i) :: st) (hst : (st.map fun v => v.category).sum ≤ 8)
    (hM : ∀ o1 : Int32 × Sg, f = some o1 → Mi (mL q) y cb maxL rt d' E L (.ref (E.2.2.2.1 i) :: As) σ o1) (hf : p_call f K = some o) (kk : ∀ (r : Int32) (τ : Sg), K r τ = some o → Vx q E L nL ret o (pc + 3) lv (rvl rt r ++ st) τ) : Vx q E L nL ret o pc lv stk σ := by
  obtain ⟨r, τ, e1, e2⟩ := p_call_of hf
  obtain ⟨hcls, w1, w2, w3, w4, n1, n2, n3⟩ := hy
  intro H locs ls h1 h2 h3 h4
  have hR : (rmd d').frames + 1 ≤ (mR q).frames ∧ 8 + (maxL + 11) + (rmd d').locals ≤ (mR q).locals := by
    rw [C.2.2.2.2.2.2.1]
    show d' + 1 ≤ d ∧ 8 + (maxL + 11) + 60 * d' ≤ 60 * d
    omega
  obtain ⟨cell, g1, g2, g3, -⟩ := (C.J.1.1 i hi).1.kept h4.2.1
  have hp : PreV (mS q) H y.cls (E.2.2.2.1 i) (va_Pc (.ref (E.2.2.2.1 i) :: As) (World E L σ)) As := ⟨World.blind, ⟨cell, g1, g2, by rw [hcls]; exact g3⟩, C.enter h2 h3 h4 _⟩
  exact vr_go C h1 h4 (va_runV (As := As) (rest := st) (nL := nL) (n := n) ⟨C.1, C.2.1, C.2.2.1, C.2.2.2.1, C.ts⟩ (hM (r, τ) e1) ⟨callB_of (Ts := lw_tbl.filter wd_ok) n C.ts (good_code w1) rfl rfl rfl (C.tb w4 rfl _) (C.tb hm rfl _) ⟨n1, n2, n3⟩ hR, C.tb w2 rfl _, C.tb w3 rfl _⟩ hp rfl hn h1.1 hs (lv_room hst) hd ⟨Nat.zero_le _, Nat.zero_le _⟩) (kk r τ e2)
end VS
