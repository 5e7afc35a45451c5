/-! the law's own body: the judgement Lx (any Q, any count of cells), its rows -/
abbrev LX : List Nat := List.range 103
abbrev LM : List Nat := [103, 104, 105, 106, 107, 108, 109, 110, 111, 112, 113, 114, 115, 116, 117, 118, 119, 120, 121, 122, 123, 124, 125, 126]
def p_xs (xs : Nat → Int32) (n : Nat) (i : Int32) (K : Int32 → Rs) : Rs := if ix i n = true then K (xs i.toNatClampNeg) else none
abbrev newA (q : Mc) : Nat → Prop := fun x => (mS q).heap.size ≤ x
def Cl (q : Mc) (E : En) (b Ln : Nat) (xs : Nat → Int32) (cc : ByteArray) (nL : Nat) (own : String) : Prop :=
  (mP q).tables.exec = Jvm.exec ∧ (mC q).code = cc ∧ (mC q).maxLocals = nL ∧ (mS q).vm.findClass own = some (mM q).cls ∧ mR q = room_1 ∧ va_X b Ln xs (mS q) (mS q).heap ∧ b < (mS q).heap.size ∧ Sx E (newA q) (mS q) (mS q).heap
def Lx (q : Mc) (E : En) (nL : Nat) (Q : State → Prop) (c s : Nat) (pc : Nat) (lv : List (Nat × Value)) (st : List Value) (σ τ : Sg) : Prop :=
  ∀ (H : Heap) (locs : List Loc) (ls : Array Slot), lv_has ls nL lv → va_P E.1 vwCl (wo E LX σ ++ wo E LM τ) H → va_D (newA q) (wo E LX σ ++ wo E LM τ) → va_S (newA q) (mS q).heap H locs → W (mP q) (mL q) (mE q) (mR q) (mS q) (mM q) (mA q) (mB q) (mH q) (mC q) H locs c s Q (F0 (mM q) pc ls st)
theorem Lx.lv {q : Mc} {E : En} {nL : Nat} {Q : State → Prop} {c s pc : Nat} {lv lv' : List (Nat × Value)} {st : List Value} {σ τ : Sg} (ks : List Nat) (h : lv_pick lv ks = lv') (k : Lx q E nL Q c s pc lv' st σ τ) : Lx q E nL Q c s pc lv st σ τ := fun H locs ls h1 h2 h3 h4 => k H locs ls (lv_sub h1 ks h) h2 h3 h4
section LR
variable {q : Mc} {E : En} {b Ln : Nat} {xs : Nat → Int32} {cc : ByteArray} {nL : Nat} {own : String} {Q : State → Prop} {c s : Nat} {lv : List (Nat × Value)} {st : List Value} {σ τ : Sg} {o : Int32 × Sg}
theorem Cl.tb (C : Cl q E b Ln xs cc nL own) {w : Cond} (h : w ∈ lw_tbl) (ho : wd_ok w = true) (a : Array Value) : w.before a (mS q) = true := C.2.2.2.2.2.2.2.1 w h ho a
theorem Cl.ts (C : Cl q E b Ln xs cc nL own) : ∀ w ∈ lw_tbl.filter wd_ok, w.before (mA q) (mS q) = true := fun w h => C.tb (List.mem_filter.mp h).1 (List.mem_filter.mp h).2 _
theorem Cl.K (C : Cl q E b Ln xs cc nL own) : va_K E.1 vwCl (tysE E) (mS q) := C.2.2.2.2.2.2.2.2.1
theorem l_iconst (pc : Nat) (C : Cl q E b Ln xs cc nL own) {n : Int} {v : Int32} (hd : decode cc pc = .ok (.iconst n, 1)) (hv : Int32.ofInt n = v) (k : Lx q E nL Q c s (pc + 1) lv (.int v :: st) σ τ) : Lx q E nL Q c s pc lv st σ τ := fun H locs ls h1 h2 h3 h4 => lv_iconst C.1 C.2.1 hd hv (k H locs ls h1 h2 h3 h4)
theorem l_bipush (pc : Nat) (C : Cl q E b Ln xs cc nL own) {n : Int} {v : Int32} (hd : decode cc pc = .ok (.bipush n, 2)) (hv : (Int8.ofInt n).toInt32 = v) (k : Lx q E nL Q c s (pc + 2) lv (.int v :: st) σ τ) : Lx q E nL Q c s pc lv st σ τ := fun H locs ls h1 h2 h3 h4 => lv_bipush C.1 C.2.1 hd hv (k H locs ls h1 h2 h3 h4)
theorem l_ldc2 (pc : Nat) (C : Cl q E b Ln xs cc nL own) {idx : Nat} {v : Int64} (hw : Cond.constantLong own idx v ∈ lw_tbl) (hd : decode cc pc = .ok (.ldc2_w idx, 3)) (k : Lx q E nL Q c s (pc + 3) lv (.long v :: st) σ τ) : Lx q E nL Q c s pc lv st σ τ := fun H locs ls h1 h2 h3 h4 => lv_ldc2 C.1 C.2.1 C.2.2.2.1 (C.tb hw rfl _) hd (k H locs ls h1 h2 h3 h4)
theorem l_iload_n (pc : Nat) (C : Cl q E b Ln xs cc nL own) {k : Fin 4} {i : Nat} {x : Int32} (hd : decode cc pc = .ok (.iload_n k, 1)) (hi : (k : Nat) = i) (hl : lget lv i = some (.int x)) (kk : Lx q E nL Q c s (pc + 1) lv (.int x :: st) σ τ) : Lx q E nL Q c s pc lv st σ τ := fun H locs ls h1 h2 h3 h4 => lv_iload_n C.1 C.2.1 hd hi (lget_at (nL := nL) h1.2.2 hl) (kk H locs ls h1 h2 h3 h4)
theorem l_aload_n (pc : Nat) (C : Cl q E b Ln xs cc nL own) {k : Fin 4} {i : Nat} {x : Nat} (hd : decode cc pc = .ok (.aload_n k, 1)) (hi : (k : Nat) = i) (hl : lget lv i = some (.ref x)) (kk : Lx q E nL Q c s (pc + 1) lv (.ref x :: st) σ τ) : Lx q E nL Q c s pc lv st σ τ := fun H locs ls h1 h2 h3 h4 => lv_aload_n C.1 C.2.1 hd hi (lget_at (nL := nL) h1.2.2 hl) (kk H locs ls h1 h2 h3 h4)
theorem l_iinc (pc : Nat) (C : Cl q E b Ln xs cc nL own) {i : Nat} {n : Int} {x v : Int32} {lv' : List (Nat × Value)} (hd : decode cc pc = .ok (.iinc i n, 3)) (hl : lget lv i = some (.int x)) (hv : x + Int32.ofInt n = v) (hn : i < nL) (hg : (lgood lv i && lnd lv) = true) (hs : lset lv i (.int v) = lv') (kk : Lx q E nL Q c s (pc + 3) lv' st σ τ) : Lx q E nL Q c s pc lv st σ τ := by
  obtain ⟨k, hk⟩ := lget_pl hl
  exact fun H locs ls h1 h2 h3 h4 => lv_iinc C.1 C.2.1 hd h1 hk hv hn rfl (fun ls2 hl2 => kk H locs ls2 (by rw [← hs]; exact lset_has (Bool.and_eq_true_iff.mp hg).1 (Bool.and_eq_true_iff.mp hg).2 hl2) h2 h3 h4)
theorem l_iadd (pc : Nat) (C : Cl q E b Ln xs cc nL own) {x y : Int32} (hd : decode cc pc = .ok (.iadd, 1)) (kk : Lx q E nL Q c s (pc + 1) lv (.int (x + y) :: st) σ τ) : Lx q E nL Q c s pc lv (.int y :: .int x :: st) σ τ := fun H locs ls h1 h2 h3 h4 => lv_iadd C.1 C.2.1 hd (kk H locs ls h1 h2 h3 h4)
theorem l_isub (pc : Nat) (C : Cl q E b Ln xs cc nL own) {x y : Int32} (hd : decode cc pc = .ok (.isub, 1)) (kk : Lx q E nL Q c s (pc + 1) lv (.int (x - y) :: st) σ τ) : Lx q E nL Q c s pc lv (.int y :: .int x :: st) σ τ := fun H locs ls h1 h2 h3 h4 => lv_isub C.1 C.2.1 hd (kk H locs ls h1 h2 h3 h4)
theorem l_iand (pc : Nat) (C : Cl q E b Ln xs cc nL own) {x y : Int32} (hd : decode cc pc = .ok (.iand, 1)) (kk : Lx q E nL Q c s (pc + 1) lv (.int (x &&& y) :: st) σ τ) : Lx q E nL Q c s pc lv (.int y :: .int x :: st) σ τ := fun H locs ls h1 h2 h3 h4 => lv_iand C.1 C.2.1 hd (kk H locs ls h1 h2 h3 h4)
theorem l_land (pc : Nat) (C : Cl q E b Ln xs cc nL own) {x y : Int64} (hd : decode cc pc = .ok (.land, 1)) (kk : Lx q E nL Q c s (pc + 1) lv (.long (x &&& y) :: st) σ τ) : Lx q E nL Q c s pc lv (.long y :: .long x :: st) σ τ := fun H locs ls h1 h2 h3 h4 => lv_land C.1 C.2.1 hd (kk H locs ls h1 h2 h3 h4)
theorem l_lor (pc : Nat) (C : Cl q E b Ln xs cc nL own) {x y : Int64} (hd : decode cc pc = .ok (.lor, 1)) (kk : Lx q E nL Q c s (pc + 1) lv (.long (x ||| y) :: st) σ τ) : Lx q E nL Q c s pc lv (.long y :: .long x :: st) σ τ := fun H locs ls h1 h2 h3 h4 => lv_lor C.1 C.2.1 hd (kk H locs ls h1 h2 h3 h4)
theorem l_lshl (pc : Nat) (C : Cl q E b Ln xs cc nL own) {x : Int64} {y : Int32} (hd : decode cc pc = .ok (.lshl, 1)) (kk : Lx q E nL Q c s (pc + 1) lv (.long (x <<< (y.toInt64 &&& 63)) :: st) σ τ) : Lx q E nL Q c s pc lv (.int y :: .long x :: st) σ τ := fun H locs ls h1 h2 h3 h4 => lv_lshl C.1 C.2.1 hd rfl (kk H locs ls h1 h2 h3 h4)
theorem l_i2l (pc : Nat) (C : Cl q E b Ln xs cc nL own) {x : Int32} (hd : decode cc pc = .ok (.i2l, 1)) (kk : Lx q E nL Q c s (pc + 1) lv (.long x.toInt64 :: st) σ τ) : Lx q E nL Q c s pc lv (.int x :: st) σ τ := fun H locs ls h1 h2 h3 h4 => lv_i2l C.1 C.2.1 hd rfl (kk H locs ls h1 h2 h3 h4)
theorem l_pop (pc : Nat) (C : Cl q E b Ln xs cc nL own) {w : Value} (hd : decode cc pc = .ok (.pop, 1)) (hw : w.category = 1) (kk : Lx q E nL Q c s (pc + 1) lv st σ τ) : Lx q E nL Q c s pc lv (w :: st) σ τ := fun H locs ls h1 h2 h3 h4 => lv_pop C.1 C.2.1 hd hw (kk H locs ls h1 h2 h3 h4)
theorem l_icmp_gt (pc : Nat) (C : Cl q E b Ln xs cc nL own) {x y : Int32} {off : Int} {tgt : Nat} {A B : Rs} (hd : decode cc pc = .ok (.if_icmp .gt off, 3)) (ht : (pc : Int) + off = (tgt : Int)) (hf : (if y < x then A else B) = some o) (kt : A = some o → Lx q E nL Q c s tgt lv st σ τ) (kf : B = some o → Lx q E nL Q c s (pc + 3) lv st σ τ) : Lx q E nL Q c s pc lv (.int y :: .int x :: st) σ τ := fun H locs ls h1 h2 h3 h4 => lv_icmp_gt C.1 C.2.1 hd ht (fun hc => kt ((p_ite hf).1 hc) H locs ls h1 h2 h3 h4) (fun hc => kf ((p_ite hf).2 hc) H locs ls h1 h2 h3 h4)
theorem l_icmp_eq (pc : Nat) (C : Cl q E b Ln xs cc nL own) {x y : Int32} {off : Int} {tgt : Nat} {A B : Rs} (hd : decode cc pc = .ok (.if_icmp .eq off, 3)) (ht : (pc : Int) + off = (tgt : Int)) (hf : (if x = y then A else B) = some o) (kt : A = some o → Lx q E nL Q c s tgt lv st σ τ) (kf : B = some o → Lx q E nL Q c s (pc + 3) lv st σ τ) : Lx q E nL Q c s pc lv (.int y :: .int x :: st) σ τ := fun H locs ls h1 h2 h3 h4 => lv_icmp_eq C.1 C.2.1 hd ht (fun hc => kt ((p_ite hf).1 hc) H locs ls h1 h2 h3 h4) (fun hc => kf ((p_ite hf).2 hc) H locs ls h1 h2 h3 h4)
theorem l_goto (pc : Nat) (C : Cl q E b Ln xs cc nL own) {off : Int} {tgt : Nat} (hd : decode cc pc = .ok (.goto off, 3)) (ht : (pc : Int) + off = (tgt : Int)) (kk : Lx q E nL Q c s tgt lv st σ τ) : Lx q E nL Q c s pc lv st σ τ := fun H locs ls h1 h2 h3 h4 => lv_goto C.1 C.2.1 hd ht (kk H locs ls h1 h2 h3 h4)
theorem l_case {x v : Int32} {A B : Rs} {pc : Nat} (hf : (if x = v then A else B) = some o) (kt : x = v → A = some o → Lx q E nL Q c s pc lv (.int x :: st) σ τ) (kf : ¬ x = v → B = some o → Lx q E nL Q c s pc lv (.int x :: st) σ τ) : Lx q E nL Q c s pc lv (.int x :: st) σ τ := by
  by_cases h : x = v
  · exact kt h ((p_ite hf).1 h)
  · exact kf h ((p_ite hf).2 h)
theorem l_tabIn (pc : Nat) (C : Cl q E b Ln xs cc nL own) {x v : Int32} {dflt lo hi : Int} {offs : Array Int} {len tgt : Nat} {off : Int} (hx : x = v) (hd : decode cc pc = .ok (.tableswitch dflt lo hi offs, len)) (h : (decide (¬ v.toInt < lo) && decide (¬ hi < v.toInt)) = true) (ho : offs[(v.toInt - lo).toNat]? = some off) (ht : (pc : Int) + off = (tgt : Int)) (kk : Lx q E nL Q c s tgt lv st σ τ) : Lx q E nL Q c s pc lv (.int x :: st) σ τ := by
  subst hx
  simp only [Bool.and_eq_true, decide_eq_true_eq] at h
  exact fun H locs ls h1 h2 h3 h4 => lv_tableIn C.1 C.2.1 hd h.1 h.2 ho ht (kk H locs ls h1 h2 h3 h4)
theorem l_tabOut (pc : Nat) (C : Cl q E b Ln xs cc nL own) {x : Int32} {dflt lo hi : Int} {offs : Array Int} {len tgt : Nat} (hd : decode cc pc = .ok (.tableswitch dflt lo hi offs, len)) (h : x.toInt < lo ∨ hi < x.toInt) (ht : (pc : Int) + dflt = (tgt : Int)) (kk : Lx q E nL Q c s tgt lv st σ τ) : Lx q E nL Q c s pc lv (.int x :: st) σ τ := fun H locs ls h1 h2 h3 h4 => lv_tableOut C.1 C.2.1 hd h ht (kk H locs ls h1 h2 h3 h4)
theorem l_slen (pc : Nat) (C : Cl q E b Ln xs cc nL own) (hd : decode cc pc = .ok (.arraylength, 1)) (kk : Lx q E nL Q c s (pc + 1) lv (.int (Int32.ofNat Ln) :: st) σ τ) : Lx q E nL Q c s pc lv (.ref b :: st) σ τ := fun H locs ls h1 h2 h3 h4 => va_slen C.1 C.2.1 C.2.2.2.2.2.1 C.2.2.2.2.2.2.1 (Nat.not_le.mpr C.2.2.2.2.2.2.1) h4 hd (kk H locs ls h1 h2 h3 h4)
theorem l_sld (pc : Nat) (C : Cl q E b Ln xs cc nL own) {i : Int32} {K : Int32 → Rs} (hd : decode cc pc = .ok (.iaload, 1)) (hf : p_xs xs Ln i K = some o) (kk : ∀ v : Int32, K v = some o → Lx q E nL Q c s (pc + 1) lv (.int v :: st) σ τ) : Lx q E nL Q c s pc lv (.int i :: .ref b :: st) σ τ := by
  unfold p_xs at hf
  split at hf
  · next hx => exact fun H locs ls h1 h2 h3 h4 => va_sld C.1 C.2.1 C.2.2.2.2.2.1 C.2.2.2.2.2.2.1 (Nat.not_le.mpr C.2.2.2.2.2.2.1) h4 (ix_in hx) hd (kk _ hf H locs ls h1 h2 h3 h4)
  · cases hf
end LR
/-- the two halves of a world -/
theorem sp1 {D : va_G} {cl : List vw_C} {A : Nat → Prop} {w1 w2 : va_W} {H : Heap} (hP : va_P D cl (w1 ++ w2) H) (hD : va_D A (w1 ++ w2)) : va_P D cl w1 H ∧ va_D A w1 := by
  have h : ∀ (k : Nat) (x : Nat × va_E), w1[k]? = some x → (w1 ++ w2)[k]? = some x := fun k x h => by rw [List.getElem?_append_left (List.getElem?_eq_some_iff.mp h).1]; exact h
  exact ⟨fun k x hx => hP k x (h k x hx), fun i j x y a b e => hD.1 i j x y (h i x a) (h j y b) e, fun k x hx => hD.2 k x (h k x hx)⟩
theorem sp2 {D : va_G} {cl : List vw_C} {A : Nat → Prop} {w1 w2 : va_W} {H : Heap} (hP : va_P D cl (w1 ++ w2) H) (hD : va_D A (w1 ++ w2)) : va_P D cl w2 H ∧ va_D A w2 := by
  have h : ∀ (k : Nat) (x : Nat × va_E), w2[k]? = some x → (w1 ++ w2)[w1.length + k]? = some x := fun k x h => by rw [List.getElem?_append_right (by omega), show w1.length + k - w1.length = k by omega]; exact h
  exact ⟨fun k x hx => hP _ x (h k x hx), fun i j x y a b e => by have := hD.1 _ _ x y (h i x a) (h j y b) e; omega, fun k x hx => hD.2 _ x (h k x hx)⟩
theorem swapP {D : va_G} {cl : List vw_C} {w1 w2 : va_W} {H : Heap} (hP : va_P D cl (w1 ++ w2) H) : va_P D cl (w2 ++ w1) H := by
  intro k x hx
  rcases List.mem_append.mp (List.mem_of_getElem? hx) with h | h
  · obtain ⟨i, hi⟩ := List.getElem?_of_mem h
    exact hP (w1.length + i) x (by rw [List.getElem?_append_right (by omega), show w1.length + i - w1.length = i by omega]; exact hi)
  · obtain ⟨i, hi⟩ := List.getElem?_of_mem h
    exact hP i x (by rw [List.getElem?_append_left (List.getElem?_eq_some_iff.mp hi).1]; exact hi)
theorem swapD {A : Nat → Prop} {w1 w2 : va_W} (hD : va_D A (w1 ++ w2)) : va_D A (w2 ++ w1) := by
  have l1 : ∀ (k : Nat) (x : Nat × va_E), w1[k]? = some x → (w1 ++ w2)[k]? = some x := fun k x h => by rw [List.getElem?_append_left (List.getElem?_eq_some_iff.mp h).1]; exact h
  have l2 : ∀ (k : Nat) (x : Nat × va_E), w2[k]? = some x → (w1 ++ w2)[w1.length + k]? = some x := fun k x h => by rw [List.getElem?_append_right (by omega), show w1.length + k - w1.length = k by omega]; exact h
  refine va_D.app ⟨fun i j x y a b e => by have := hD.1 _ _ x y (l2 i x a) (l2 j y b) e; omega, fun k x hx => hD.2 _ x (l2 k x hx)⟩ ⟨fun i j x y a b e => hD.1 _ _ x y (l1 i x a) (l1 j y b) e, fun k x hx => hD.2 _ x (l1 k x hx)⟩ (fun i j x y a b e => ?_)
  have := hD.1 _ _ x y (l2 i x a) (l1 j y b) e
  have := (List.getElem?_eq_some_iff.mp b).1
  omega
theorem njl {A0 : Nat → Prop} {D : va_G} {cl : List vw_C} {wr wc w1 : va_W} {H H1 : Heap} {F : Nat → Prop} (hP : va_P D cl (wc ++ wr) H) (hD : va_D A0 (wc ++ wr)) (hk : ∀ q : Nat, q < H.size → ¬ F q → H1[q]? = H[q]?) (hF1 : ∀ q, F q → (∃ (k : Nat) (e : va_E), wc[k]? = some (q, e)) ∨ H.size ≤ q) (hF : ∀ q, F q → A0 q) (hP1 : va_P D cl w1 H1) (hD1 : va_D F w1) : va_P D cl (w1 ++ wr) H1 ∧ va_D A0 (w1 ++ wr) := by
  obtain ⟨a, b⟩ := nj (swapP hP) (swapD hD) hk hF1 hF hP1 hD1
  exact ⟨swapP a, swapD b⟩
section LR2
variable {q : Mc} {E : En} {b Ln : Nat} {xs : Nat → Int32} {cc : ByteArray} {nL : Nat} {own : String} {Q : State → Prop} {c s : Nat} {lv : List (Nat × Value)} {st : List Value} {σ τ : Sg} {o : Int32 × Sg}
theorem l_callX (pc : Nat) (C : Cl q E b Ln xs cc nL own) {idx : Nat} {y : MethodName} {ci n k x maxL d' : Nat} {cb : ByteArray} {rt : Option FieldType} {f : Rs} {K : Int32 → Sg → Rs} {stk : List Value} (As : List Value) (hm : Lm own idx y) (hy : Ly y ci cb maxL rt n) (hk : Lc LX k (ci, x)) (hc : ci < nCls) (hd : decode cc pc = .ok (.invokevirtual idx, 3)) (hn : As.length = n) (hr : d' ≤ 100 ∧ maxL ≤ 40) (hs : stk = As.reverse ++ .ref (E.2.1 k) :: st) (hst : (st.map fun v => v.category).sum ≤ 8) (hcs : c ≤ 600000 ∧ s ≤ 7302250)
    (hM : ∀ o1 : Int32 × Sg, f = some o1 → Mi (mL q) y cb maxL rt d' E LX (.ref (E.2.1 k) :: As) σ o1) (hf : p_call f K = some o) (kk : ∀ (r : Int32) (υ : Sg), K r υ = some o → Lx q E nL Q c s (pc + 3) lv (rvl rt r ++ st) υ τ) : Lx q E nL Q c s pc lv stk σ τ := by
  obtain ⟨r, υ, e1, e2⟩ := p_call_of hf
  obtain ⟨⟨T, N, hcl⟩, w1, w2, w3, w4, n1, n2, n3⟩ := hy
  intro H locs ls h1 h2 h3 h4
  obtain ⟨q0, -, hq⟩ := wo_get E σ hk.1
  rw [ent_obj E σ hk.2 hc] at hq
  have hR : (rmd d').frames + 1 ≤ (mR q).frames ∧ 8 + (maxL + 11) + (rmd d').locals ≤ (mR q).locals := by
    rw [C.2.2.2.2.1]
    show d' + 1 ≤ 2048 ∧ 8 + (maxL + 11) + 60 * d' ≤ 84000
    omega
  have hcs2 : c + 0 ≤ (mR q).cells ∧ s + 0 ≤ (mR q).slots := by
    rw [C.2.2.2.2.1]
    exact hcs
  obtain ⟨p2, p3⟩ := sp1 h2 h3
  have inC : ∀ a, inL E LX a → ∃ (i : Nat) (e : va_E), (wo E LX σ)[i]? = some (a, e) := by
    intro a ⟨k, hk, e⟩
    obtain ⟨q0, -, hq⟩ := wo_get E σ hk
    subst e
    exact ⟨q0, _, hq⟩
  have inA : ∀ a, inL E LX a → newA q a := fun a h => by
    obtain ⟨i, e, hi⟩ := inC a h
    exact p3.2 i _ hi
  have hp : PreV (mS q) H y.cls (E.2.1 k) (va_Pc (.ref (E.2.1 k) :: As) (World E LX σ)) As := ⟨World.blind, va_recv C.K p2 hcl hq, fun U hU hW => ⟨rfl, by rw [hU]; exact p2, wo_self p3, by rw [hU]; exact ((C.2.2.2.2.2.2.2.warm hW).kept h4.2.1).narrow inA⟩⟩
  have fin : ∀ {a : Array Value}, va_Run (mP q) (mL q) (mE q) (mR q) (mS q) (mM q) (mA q) (mB q) (mH q) (mC q) H locs c s 0 0 (F0 (mM q) pc ls stk) st (Qo E LX rt (r, υ) a) (inL E LX) → W (mP q) (mL q) (mE q) (mR q) (mS q) (mM q) (mA q) (mB q) (mH q) (mC q) H locs c s Q (F0 (mM q) pc ls stk) := by
    intro a hrn T hT X
    obtain ⟨v, st₀, t, T', L', h0, X', hL, e3, e4, ⟨hv, ⟨u1, u2, -⟩, hz, hkk⟩, stp⟩ := hrn T hT X
    cases hv
    rw [h0] at hz hkk
    obtain ⟨j1, j2⟩ := njl (F := inL E LX) h2 h3 (H1 := T'.heap) (fun x a1 a2 => by rw [e3]; exact hkk x a1 a2) (fun x h => Or.inl (inC x h)) inA (by rw [e3]; exact u1) u2
    obtain ⟨t2, a1, b1⟩ := kk r υ e2 T'.heap (locs ++ L') ls h1 j1 j2
      ⟨Nat.le_trans h4.1 (by rw [e3]; exact hz), fun x a1 a2 => by rw [e3, hkk x (Nat.lt_of_lt_of_le a1 h4.1) (fun h => a2 (inA x h))]; exact h4.2.1 x a1 a2, fun x hx => by
        rcases List.mem_append.mp hx with h | h
        · exact h4.2.2 x h
        · exact inA _ (hL x h)⟩ T' rfl X'
    exact ⟨t2, stp t2 a1, b1⟩
  rcases hm with hm | ⟨host, hm⟩
  · exact fin (va_runV (As := As) (rest := st) (nL := nL) (n := n) ⟨C.1, C.2.1, C.2.2.1, C.2.2.2.1, C.ts⟩ (hM (r, υ) e1) ⟨callB_of (Ts := lw_tbl.filter wd_ok) n C.ts (good_code w1) rfl rfl rfl (C.tb w4 rfl _) (C.tb hm rfl _) ⟨n1, n2, n3⟩ hR, C.tb w2 rfl _, C.tb w3 rfl _⟩ hp rfl hn h1.1 hs (lv_room hst) hd hcs2)
  · exact fin (va_runVN (As := As) (rest := st) (nL := nL) (n := n) ⟨C.1, C.2.1, C.2.2.1, C.2.2.2.1, C.ts⟩ (hM (r, υ) e1) ⟨va_cnB (Ts := lw_tbl.filter wd_ok) n C.ts (good_code w1) rfl rfl rfl (va_Nw.of rfl (C.tb hm rfl (mA q))) (C.tb w4 rfl _) ⟨n1, n2, n3⟩ hR, C.tb w2 rfl _, C.tb w3 rfl _⟩ hp rfl hn h1.1 hs (lv_room hst) hd hcs2)
theorem l_callM (pc : Nat) (C : Cl q E b Ln xs cc nL own) {idx : Nat} {y : MethodName} {ci n k x maxL d' : Nat} {cb : ByteArray} {rt : Option FieldType} {f : Rs} {K : Int32 → Sg → Rs} {stk : List Value} (As : List Value) (hm : Lm own idx y) (hy : Ly y ci cb maxL rt n) (hk : Lc LM k (ci, x)) (hc : ci < nCls) (hd : decode cc pc = .ok (.invokevirtual idx, 3)) (hn : As.length = n) (hr : d' ≤ 100 ∧ maxL ≤ 40) (hs : stk = As.reverse ++ .ref (E.2.1 k) :: st) (hst : (st.map fun v => v.category).sum ≤ 8) (hcs : c ≤ 600000 ∧ s ≤ 7302250)
    (hM : ∀ o1 : Int32 × Sg, f = some o1 → Mi (mL q) y cb maxL rt d' E LM (.ref (E.2.1 k) :: As) τ o1) (hf : p_call f K = some o) (kk : ∀ (r : Int32) (υ : Sg), K r υ = some o → Lx q E nL Q c s (pc + 3) lv (rvl rt r ++ st) σ υ) : Lx q E nL Q c s pc lv stk σ τ := by
  obtain ⟨r, υ, e1, e2⟩ := p_call_of hf
  obtain ⟨⟨T, N, hcl⟩, w1, w2, w3, w4, n1, n2, n3⟩ := hy
  intro H locs ls h1 h2 h3 h4
  obtain ⟨q0, -, hq⟩ := wo_get E τ hk.1
  rw [ent_obj E τ hk.2 hc] at hq
  have hR : (rmd d').frames + 1 ≤ (mR q).frames ∧ 8 + (maxL + 11) + (rmd d').locals ≤ (mR q).locals := by
    rw [C.2.2.2.2.1]
    show d' + 1 ≤ 2048 ∧ 8 + (maxL + 11) + 60 * d' ≤ 84000
    omega
  have hcs2 : c + 0 ≤ (mR q).cells ∧ s + 0 ≤ (mR q).slots := by
    rw [C.2.2.2.2.1]
    exact hcs
  obtain ⟨p2, p3⟩ := sp2 h2 h3
  have inC : ∀ a, inL E LM a → ∃ (i : Nat) (e : va_E), (wo E LM τ)[i]? = some (a, e) := by
    intro a ⟨k, hk, e⟩
    obtain ⟨q0, -, hq⟩ := wo_get E τ hk
    subst e
    exact ⟨q0, _, hq⟩
  have inA : ∀ a, inL E LM a → newA q a := fun a h => by
    obtain ⟨i, e, hi⟩ := inC a h
    exact p3.2 i _ hi
  have hp : PreV (mS q) H y.cls (E.2.1 k) (va_Pc (.ref (E.2.1 k) :: As) (World E LM τ)) As := ⟨World.blind, va_recv C.K p2 hcl hq, fun U hU hW => ⟨rfl, by rw [hU]; exact p2, wo_self p3, by rw [hU]; exact ((C.2.2.2.2.2.2.2.warm hW).kept h4.2.1).narrow inA⟩⟩
  have fin : ∀ {a : Array Value}, va_Run (mP q) (mL q) (mE q) (mR q) (mS q) (mM q) (mA q) (mB q) (mH q) (mC q) H locs c s 0 0 (F0 (mM q) pc ls stk) st (Qo E LM rt (r, υ) a) (inL E LM) → W (mP q) (mL q) (mE q) (mR q) (mS q) (mM q) (mA q) (mB q) (mH q) (mC q) H locs c s Q (F0 (mM q) pc ls stk) := by
    intro a hrn T hT X
    obtain ⟨v, st₀, t, T', L', h0, X', hL, e3, e4, ⟨hv, ⟨u1, u2, -⟩, hz, hkk⟩, stp⟩ := hrn T hT X
    cases hv
    rw [h0] at hz hkk
    obtain ⟨j1, j2⟩ := nj (F := inL E LM) h2 h3 (H1 := T'.heap) (fun x a1 a2 => by rw [e3]; exact hkk x a1 a2) (fun x h => Or.inl (inC x h)) inA (by rw [e3]; exact u1) u2
    obtain ⟨t2, a1, b1⟩ := kk r υ e2 T'.heap (locs ++ L') ls h1 j1 j2
      ⟨Nat.le_trans h4.1 (by rw [e3]; exact hz), fun x a1 a2 => by rw [e3, hkk x (Nat.lt_of_lt_of_le a1 h4.1) (fun h => a2 (inA x h))]; exact h4.2.1 x a1 a2, fun x hx => by
        rcases List.mem_append.mp hx with h | h
        · exact h4.2.2 x h
        · exact inA _ (hL x h)⟩ T' rfl X'
    exact ⟨t2, stp t2 a1, b1⟩
  rcases hm with hm | ⟨host, hm⟩
  · exact fin (va_runV (As := As) (rest := st) (nL := nL) (n := n) ⟨C.1, C.2.1, C.2.2.1, C.2.2.2.1, C.ts⟩ (hM (r, υ) e1) ⟨callB_of (Ts := lw_tbl.filter wd_ok) n C.ts (good_code w1) rfl rfl rfl (C.tb w4 rfl _) (C.tb hm rfl _) ⟨n1, n2, n3⟩ hR, C.tb w2 rfl _, C.tb w3 rfl _⟩ hp rfl hn h1.1 hs (lv_room hst) hd hcs2)
  · exact fin (va_runVN (As := As) (rest := st) (nL := nL) (n := n) ⟨C.1, C.2.1, C.2.2.1, C.2.2.2.1, C.ts⟩ (hM (r, υ) e1) ⟨va_cnB (Ts := lw_tbl.filter wd_ok) n C.ts (good_code w1) rfl rfl rfl (va_Nw.of rfl (C.tb hm rfl (mA q))) (C.tb w4 rfl _) ⟨n1, n2, n3⟩ hR, C.tb w2 rfl _, C.tb w3 rfl _⟩ hp rfl hn h1.1 hs (lv_room hst) hd hcs2)
end LR2
theorem bkX : Bk LX sh_AuntsPuzzle 0 := by
  intro j x hj
  have hl : j < 103 := (List.getElem?_eq_some_iff.mp hj).1
  refine ⟨List.mem_range.mpr (by omega), ?_⟩
  have h : ∀ j, j < 103 → sh_AuntsPuzzle[j]? = some (lay (0 + j)) := by decide +kernel
  have := h j hl
  rw [hj] at this
  exact (Option.some.inj this).symm
theorem bkM : Bk LM sh_AuntsPuzzleModel 103 := by
  intro j x hj
  have hl : j < 24 := (List.getElem?_eq_some_iff.mp hj).1
  have h9 : ∀ j, j < 24 → 103 + j ∈ LM := by decide
  refine ⟨h9 j hl, ?_⟩
  have h : ∀ j, j < 24 → sh_AuntsPuzzleModel[j]? = some (lay (103 + j)) := by decide +kernel
  have := h j hl
  rw [hj] at this
  exact (Option.some.inj this).symm
