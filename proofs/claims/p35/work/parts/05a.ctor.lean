/-! constructors: blocks of cells by their shape (wb), the judgement Nx over explicit lists of cells, its rows -/
def z0 : Sg := fun _ _ => 0
def we (E : En) (sh : List (Nat × Nat)) (as : Nat → Nat) (ρ : Sg) (j : Nat) : va_E := if (sh.getD j (99, 0)).1 < nCls then .inr ((sh.getD j (99, 0)).1, fl_vs as ρ j (fo (sh.getD j (99, 0)).1) 0) else .inl (E.2.2.1 (sh.getD j (99, 0)).1, ((sh.getD j (99, 0)).2, .inl (ρ j)))
def wb (E : En) (sh : List (Nat × Nat)) (as : Nat → Nat) (ρ : Sg) : va_W := (List.range sh.length).map (fun j => (as j, we E sh as ρ j))
abbrev rmn (d mc ms : Nat) : Room := { frames := d, cells := mc, slots := ms, locals := 60 * d }
def Qn (E : En) (A : Nat → Prop) (h0 : Nat) (sh : List (Nat × Nat)) (Pr : Sg → Prop) : Array Value → State → Outcome → State → Prop := fun _ st oc t => oc = .returned none ∧ (∃ (as : Nat → Nat) (ρ : Sg), as 0 = h0 ∧ Pr ρ ∧ va_P E.1 vwCl (wb E sh as ρ) t.heap ∧ va_D A (wb E sh as ρ)) ∧ va_F A st t
def Pn (E : En) (ci : Nat) (fs : List Value) (h0 sz : Nat) : State → Prop := fun U => U.heap.size = sz ∧ va_P E.1 vwCl [(h0, .inr (ci, fs))] U.heap ∧ Sx E (va_A [(h0, .inr (ci, fs))] sz) U U.heap
/-- THE CONTRACT of a constructor: out of the bare object comes the block of the shape sh that holds ρ -/
def Ni (l : Launch) (y : MethodName) (cc : ByteArray) (maxL d mc ms : Nat) (E : En) (ci : Nat) (fs : List Value) (sh : List (Nat × Nat)) (Pr : Sg → Prop) : Prop :=
  ∀ (h0 sz : Nat), Met l y [.code y cc maxL none] (rmn d mc ms) (va_Pc [.ref h0] (Pn E ci fs h0 sz)) (Qn E (va_A [(h0, .inr (ci, fs))] sz) h0 sh Pr) mc ms (va_A [(h0, .inr (ci, fs))] sz)
def Cn (q : Mc) (E : En) (A : Nat → Prop) (cc : ByteArray) (nL : Nat) (own : String) (d mc ms : Nat) : Prop :=
  (mP q).tables.exec = Jvm.exec ∧ (mC q).code = cc ∧ (mC q).maxLocals = nL ∧ (mS q).vm.findClass own = some (mM q).cls ∧ (mH q).sig.returnType = none ∧ (mH q).locks = false ∧ mR q = rmn d mc ms ∧ (mH q).name = "<init>" ∧ (∀ x, (mS q).heap.size ≤ x → A x) ∧ Sx E A (mS q) (mS q).heap
def Nx (q : Mc) (E : En) (A : Nat → Prop) (nL : Nat) (Q : State → Prop) (pc : Nat) (lv : List (Nat × Value)) (st : List Value) (ws : va_W) (c s : Nat) : Prop :=
  ∀ (H : Heap) (locs : List Loc) (ls : Array Slot), lv_has ls nL lv → va_P E.1 vwCl ws H → va_D A ws → va_S A (mS q).heap H locs → W (mP q) (mL q) (mE q) (mR q) (mS q) (mM q) (mA q) (mB q) (mH q) (mC q) H locs c s Q (F0 (mM q) pc ls st)
theorem va_D1 {A : Nat → Prop} {x : Nat × va_E} (h : A x.1) : va_D A [x] := by
  refine ⟨fun i j p q h1 h2 _ => ?_, fun k q hk => ?_⟩
  · have a1 : i < 1 := (List.getElem?_eq_some_iff.mp h1).1
    have a2 : j < 1 := (List.getElem?_eq_some_iff.mp h2).1
    omega
  · have a1 : k < 1 := (List.getElem?_eq_some_iff.mp hk).1
    rw [show k = 0 by omega] at hk
    cases hk
    exact h
theorem Ni.of {l : Launch} {y : MethodName} {cc : ByteArray} {maxL d mc ms : Nat} {E : En} {ci : Nat} {fs : List Value} {sh : List (Nat × Nat)} {Pr : Sg → Prop} (own : String) (hown : y.cls = own) (hin : y.name = "<init>") (hy : plainName y.cls = true) (hlen : 1 ≤ maxL)
    (body : ∀ (q : Mc) (h0 : Nat), mL q = l → Cn q E (va_A [(h0, .inr (ci, fs))] (mS q).heap.size) cc maxL own d mc ms → Nx q E (va_A [(h0, .inr (ci, fs))] (mS q).heap.size) maxL (MQ (mB q) (Qn E (va_A [(h0, .inr (ci, fs))] (mS q).heap.size) h0 sh Pr) (mA q) (mS q) mc ms (va_A [(h0, .inr (ci, fs))] (mS q).heap.size)) 0 [(0, .ref h0)] [] [(h0, .inr (ci, fs))] 0 0) : Ni l y cc maxL d mc ms E ci fs sh Pr := by
  intro h0 sz
  refine Met.ofW (cc := cc) (maxL := maxL) (ret := none) hy rfl ?_
  intro p e s m args below meth c s₁ B hml hv
  obtain ⟨rfl, rfl, hP, hX⟩ := hv
  have hl := lv_entry [Value.ref h0] (n := maxL) (by have h9 : (lg_sl [Value.ref h0]).length = 1 := rfl; omega)
  rw [lg_entry_eq]
  exact body (p, l, e, (headSpec [Cond.code y cc maxL none] (rmn d mc ms)).room, s, m, [Value.ref h0].toArray, below, meth, c) h0 rfl ⟨B.exec, B.bytes, hml, by rw [← hown]; exact findClass_of_methodNamed B.named, B.returns, B.notSynchronized, rfl, by rw [← hin]; exact (name_of_methodNamed B.named B.method).1, fun x h => Or.inr h, hX⟩ s.heap [] _ hl hP (va_D1 (Or.inl ⟨0, _, rfl⟩)) va_S.rf
section NR
variable {q : Mc} {E : En} {A : Nat → Prop} {cc : ByteArray} {nL : Nat} {own : String} {d mc ms : Nat} {Q : State → Prop} {lv : List (Nat × Value)} {st : List Value} {ws : va_W} {c s : Nat}
theorem Cn.tb (C : Cn q E A cc nL own d mc ms) {w : Cond} (h : w ∈ lw_tbl) (ho : wd_ok w = true) (a : Array Value) : w.before a (mS q) = true := C.2.2.2.2.2.2.2.2.2.1 w h ho a
theorem Cn.ts (C : Cn q E A cc nL own d mc ms) : ∀ w ∈ lw_tbl.filter wd_ok, w.before (mA q) (mS q) = true := fun w h => C.tb (List.mem_filter.mp h).1 (List.mem_filter.mp h).2 _
theorem Cn.K (C : Cn q E A cc nL own d mc ms) : va_K E.1 vwCl (tysE E) (mS q) := C.2.2.2.2.2.2.2.2.2.2.1
theorem n_aload0 (pc : Nat) (C : Cn q E A cc nL own d mc ms) {x : Nat} (hd : decode cc pc = .ok (.aload_n 0, 1)) (hl : lget lv 0 = some (.ref x)) (kk : Nx q E A nL Q (pc + 1) lv (.ref x :: st) ws c s) : Nx q E A nL Q pc lv st ws c s := fun H locs ls h1 h2 h3 h4 => lv_aload_n C.1 C.2.1 hd rfl (lget_at (nL := nL) h1.2.2 hl) (kk H locs ls h1 h2 h3 h4)
theorem n_iconst (pc : Nat) (C : Cn q E A cc nL own d mc ms) {n : Int} {v : Int32} (hd : decode cc pc = .ok (.iconst n, 1)) (hv : Int32.ofInt n = v) (kk : Nx q E A nL Q (pc + 1) lv (.int v :: st) ws c s) : Nx q E A nL Q pc lv st ws c s := fun H locs ls h1 h2 h3 h4 => lv_iconst C.1 C.2.1 hd hv (kk H locs ls h1 h2 h3 h4)
theorem n_bipush (pc : Nat) (C : Cn q E A cc nL own d mc ms) {n : Int} {v : Int32} (hd : decode cc pc = .ok (.bipush n, 2)) (hv : (Int8.ofInt n).toInt32 = v) (kk : Nx q E A nL Q (pc + 2) lv (.int v :: st) ws c s) : Nx q E A nL Q pc lv st ws c s := fun H locs ls h1 h2 h3 h4 => lv_bipush C.1 C.2.1 hd hv (kk H locs ls h1 h2 h3 h4)
theorem n_sipush (pc : Nat) (C : Cn q E A cc nL own d mc ms) {n : Int} {v : Int32} (hd : decode cc pc = .ok (.sipush n, 3)) (hv : (Int16.ofInt n).toInt32 = v) (kk : Nx q E A nL Q (pc + 3) lv (.int v :: st) ws c s) : Nx q E A nL Q pc lv st ws c s := fun H locs ls h1 h2 h3 h4 => lv_sipush C.1 C.2.1 hd hv (kk H locs ls h1 h2 h3 h4)
theorem n_dup (pc : Nat) (C : Cn q E A cc nL own d mc ms) {x : Nat} (hd : decode cc pc = .ok (.dup, 1)) (kk : Nx q E A nL Q (pc + 1) lv (.ref x :: .ref x :: st) ws c s) : Nx q E A nL Q pc lv (.ref x :: st) ws c s := fun H locs ls h1 h2 h3 h4 => lv_dup C.1 C.2.1 hd rfl (kk H locs ls h1 h2 h3 h4)
/-- the words for Object's constructor -/
def Lo : Prop := Cond.instanceMethod objectInit ∈ lw_tbl ∧ Cond.code objectInit ⟨#[0xb1]⟩ 1 none ∈ lw_tbl
theorem n_obj (pc : Nat) (C : Cn q E A cc nL own d mc ms) {idx x : Nat} (hl : Cond.methodLink own idx objectInit ∈ lw_tbl) (ho : Lo) (hr : 1 ≤ d) (hst : (st.map fun v => v.category).sum ≤ 8) (hd : decode cc pc = .ok (.invokespecial idx, 3)) (kk : Nx q E A nL Q (pc + 3) lv st ws c s) : Nx q E A nL Q pc lv (.ref x :: st) ws c s := fun H locs ls h1 h2 h3 h4 => by
  refine W.objInit C.1 C.2.1 C.2.2.2.1 (C.tb hl rfl _) (C.tb ho.1 rfl _) (C.tb ho.2 rfl _) (g := F0 (mM q) pc ls (.ref x :: st)) rfl (h1.1.trans C.2.2.1.symm) (a := x) (rest := st) rfl hd ?_ ?_ (kk H locs ls h1 h2 h3 h4)
  · rw [C.2.2.2.2.2.2.1]; exact hr
  · rw [C.2.2.2.2.2.2.1]
    show 2 * 0 + _ + 12 ≤ 60 * d
    omega
theorem n_newaT (pc : Nat) (C : Cn q E A cc nL own d mc ms) {at0 : ArrayType} {ty : FieldType} {t N : Nat} {n : Int32} (harr : Cond.arrayClass (newarray.typeOf at0) ∈ lw_tbl) (hty : newarray.typeOf at0 = ty) (ht : (tysE E)[t]? = some (E.2.2.1 (nCls + t), ty)) (hc : ∀ cA : ClassId, va_RA (mS q) cA ty → va_RA (mS q) (E.2.2.1 (nCls + t)) ty → cA = E.2.2.1 (nCls + t)) (hz : ∀ cA : ClassId, vp_cell cA (N, .inl fun _ => 0) = arrV cA N (fun _ => defaultValue ty)) (hn : ¬ n < 0) (hN : n.toNatClampNeg = N) (hby : N * componentBytes ty ≤ 536870912) (hm : c + 1 ≤ mc ∧ s + N ≤ ms) (hd : decode cc pc = .ok (.newarray at0, 2))
    (kk : ∀ a : Nat, Nx q E A nL Q (pc + 2) lv (.ref a :: st) (ws ++ [(a, .inl (E.2.2.1 (nCls + t), N, .inl fun _ => 0))]) (c + 1) (s + N)) : Nx q E A nL Q pc lv (.int n :: st) ws c s := fun H locs ls h1 h2 h3 h4 => by
  refine va_newa C.1 C.2.1 (C.tb harr (by subst hty; rfl) _) hty C.K h2 h3 h4 C.2.2.2.2.2.2.2.2.1 (a0 := (N, .inl fun _ => 0)) hz hn hN hby (by rw [C.2.2.2.2.2.2.1]; exact hm.1) (by rw [C.2.2.2.2.2.2.1]; exact hm.2) hd (fun a cA H1 g1 g2 g3 g4 => ?_)
  have e1 : (tysE E ++ [(cA, ty)])[(tysE E).length]? = some (cA, ty) := by simp
  have e2 := hc cA (g1.2 _ _ e1).2 (C.K.2 _ _ ht).2
  subst e2
  exact kk a H1 locs ls h1 g2 g3 g4
theorem n_newaI (pc : Nat) (C : Cn q E A cc nL own d mc ms) {N : Nat} {n : Int32} (harr : Cond.arrayClass .int ∈ lw_tbl) (hn : ¬ n < 0) (hN : n.toNatClampNeg = N) (hby : N * componentBytes .int ≤ 536870912) (hm : c + 1 ≤ mc ∧ s + N ≤ ms) (hd : decode cc pc = .ok (.newarray .int, 2)) (kk : ∀ a : Nat, Nx q E A nL Q (pc + 2) lv (.ref a :: st) (ws ++ [(a, .inl (E.2.2.1 (nCls + 0), N, .inl fun _ => 0))]) (c + 1) (s + N)) : Nx q E A nL Q pc lv (.int n :: st) ws c s :=
  n_newaT pc C (at0 := .int) (ty := .int) (t := 0) harr rfl rfl (fun cA a b => Option.some.inj (a.symm.trans b)) (fun cA => rfl) hn hN hby hm hd kk
theorem n_newaZ (pc : Nat) (C : Cn q E A cc nL own d mc ms) {N : Nat} {n : Int32} (harr : Cond.arrayClass .boolean ∈ lw_tbl) (hn : ¬ n < 0) (hN : n.toNatClampNeg = N) (hby : N * componentBytes .boolean ≤ 536870912) (hm : c + 1 ≤ mc ∧ s + N ≤ ms) (hd : decode cc pc = .ok (.newarray .boolean, 2)) (kk : ∀ a : Nat, Nx q E A nL Q (pc + 2) lv (.ref a :: st) (ws ++ [(a, .inl (E.2.2.1 (nCls + 1), N, .inl fun _ => 0))]) (c + 1) (s + N)) : Nx q E A nL Q pc lv (.int n :: st) ws c s :=
  n_newaT pc C (at0 := .boolean) (ty := .boolean) (t := 1) harr rfl rfl (fun cA a b => Option.some.inj (a.symm.trans b)) (fun cA => rfl) hn hN hby hm hd kk
theorem n_newaC (pc : Nat) (C : Cn q E A cc nL own d mc ms) {N : Nat} {n : Int32} (harr : Cond.arrayClass .char ∈ lw_tbl) (hn : ¬ n < 0) (hN : n.toNatClampNeg = N) (hby : N * componentBytes .char ≤ 536870912) (hm : c + 1 ≤ mc ∧ s + N ≤ ms) (hd : decode cc pc = .ok (.newarray .char, 2)) (kk : ∀ a : Nat, Nx q E A nL Q (pc + 2) lv (.ref a :: st) (ws ++ [(a, .inl (E.2.2.1 (nCls + 2), N, .inl fun _ => 0))]) (c + 1) (s + N)) : Nx q E A nL Q pc lv (.int n :: st) ws c s :=
  n_newaT pc C (at0 := .char) (ty := .char) (t := 2) harr rfl rfl (fun cA a b => Option.some.inj (a.symm.trans b)) (fun cA => rfl) hn hN hby hm hd kk
/-- a class that can be made: the words for 'new' -/
def Lw (own : String) (idx ci : Nat) (fs : List Value) (N : Nat) : Prop := ∃ (Cn : String) (T : u_T) (t0 : Nat → FieldType), vwCl[ci]? = some (Cn, T, N) ∧ (∀ w ∈ u_ws Cn T N, w ∈ lw_tbl) ∧ (∀ k, k < N → parseFieldDescriptor (T k).2.2.1 = some (t0 k)) ∧ Cond.classLink own idx Cn ∈ lw_tbl ∧ Cond.instantiable Cn N ∈ lw_tbl ∧ Cond.initialized Cn ∈ lw_tbl ∧ ∀ j, j < N → defaultValue (t0 j) = vp_V fs j
theorem n_new (pc : Nat) (C : Cn q E A cc nL own d mc ms) {idx ci N : Nat} {fs : List Value} (hl : Lw own idx ci fs N) (hm : c + 1 ≤ mc ∧ s + N ≤ ms) (hd : decode cc pc = .ok (.new idx, 3)) (kk : ∀ a : Nat, Nx q E A nL Q (pc + 3) lv (.ref a :: st) (ws ++ [(a, .inr (ci, fs))]) (c + 1) (s + N)) : Nx q E A nL Q pc lv st ws c s := fun H locs ls h1 h2 h3 h4 => by
  obtain ⟨Cl, T, t0, w1, w2, w3, w4, w5, w6, w7⟩ := hl
  exact va_new C.1 C.2.1 (Ts := lw_tbl.filter wd_ok) C.ts (u_ws_ok w2) t0 w3 C.2.2.2.1 (C.tb w4 rfl _) (C.tb w5 rfl _) (C.tb w6 rfl _) C.K h2 h3 h4 C.2.2.2.2.2.2.2.2.1 w1 w7 (by rw [C.2.2.2.2.2.2.1]; exact hm.1) (by rw [C.2.2.2.2.2.2.1]; exact hm.2) hd (fun a H1 g2 g3 g4 => kk a H1 locs ls h1 g2 g3 g4)
/-- the final field link idx of the class own is its own slot j, of the type ty -/
def Lf (own : String) (idx ci j : Nat) (ty : FieldType) : Prop := ∃ (Cn : String) (T : u_T) (N : Nat) (t0 : Nat → FieldType), vwCl[ci]? = some (Cn, T, N) ∧ j < N ∧ (∀ w ∈ u_ws Cn T N, w ∈ lw_tbl) ∧ Cond.fieldLink own idx (T j).1 (T j).2.1 (T j).2.2.1 ∈ lw_tbl ∧ (∀ k, k < N → parseFieldDescriptor (T k).2.2.1 = some (t0 k)) ∧ (∀ a, a < N → ∀ b, b < N → a ≠ b → (T a).2.1 ≠ (T b).2.1) ∧ (T j).2.2.2 = true ∧ t0 j = ty ∧ (T j).1 = own
theorem n_putF (pc : Nat) (C : Cn q E A cc nL own d mc ms) {idx ci j x h0 : Nat} {ty : FieldType} {fs fs' : List Value} {wr : va_W} (hl : Lf own idx ci j ty) (hws : ws = (h0, .inr (ci, fs)) :: wr) (hn : narrow ty (.ref x) = .ref x) (hft : fits ty (.ref x) = true) (hj : j < fs.length) (hs : fs.set j (.ref x) = fs') (hd : decode cc pc = .ok (.putfield idx, 3)) (kk : Nx q E A nL Q (pc + 3) lv st ((h0, .inr (ci, fs')) :: wr) c s) : Nx q E A nL Q pc lv (.ref x :: .ref h0 :: st) ws c s := fun H locs ls h1 h2 h3 h4 => by
  obtain ⟨Cl, T, N, t0, w1, w2, w3, w4, w5, w6, w7, w8, w9⟩ := hl
  subst hws
  exact va_putF C.1 C.2.1 (Ts := lw_tbl.filter wd_ok) C.ts (u_ws_ok w3) t0 w5 w6 C.2.2.2.1 C.K h2 h3 h4 0 rfl w1 j w2 (C.tb w4 rfl _) (fun _ h => h) w7 C.2.2.2.2.2.2.2.1 w9 (by rw [w5 j w2, w8]) hn hft hj hd (fun H1 locs1 g2 g3 g4 => by rw [hs] at g2 g3; exact kk H1 locs1 ls h1 g2 g3 g4)
theorem n_putI (pc : Nat) (C : Cn q E A cc nL own d mc ms) {idx ci j h0 : Nat} {ty : FieldType} {v : Int32} {fs fs' : List Value} {wr : va_W} (hl : Lp own idx ci j ty) (hws : ws = (h0, .inr (ci, fs)) :: wr) (hn : narrow ty (.int v) = .int v) (hft : fits ty (.int v) = true) (hj : j < fs.length) (hs : fs.set j (.int v) = fs') (hd : decode cc pc = .ok (.putfield idx, 3)) (kk : Nx q E A nL Q (pc + 3) lv st ((h0, .inr (ci, fs')) :: wr) c s) : Nx q E A nL Q pc lv (.int v :: .ref h0 :: st) ws c s := fun H locs ls h1 h2 h3 h4 => by
  obtain ⟨Cl, T, N, t0, w1, w2, w3, w4, w5, w6, w7, w8⟩ := hl
  subst hws
  have hdt : parseFieldDescriptor (T j).2.2.1 = some ty := by rw [w5 j w2, w8]
  rcases w4 with w4 | ⟨host, w4⟩
  · exact va_put C.1 C.2.1 (Ts := lw_tbl.filter wd_ok) C.ts (u_ws_ok w3) t0 w5 w6 C.2.2.2.1 C.K h2 h3 h4 0 rfl w1 j w2 (C.tb w4 rfl _) (fun _ h => h) w7 hdt hn hft hj hd (fun H1 locs1 g2 g3 g4 => by rw [hs] at g2 g3; exact kk H1 locs1 ls h1 g2 g3 g4)
  · exact va_putN C.1 C.2.1 (Ts := lw_tbl.filter wd_ok) C.ts (u_ws_ok w3) t0 w5 w6 C.2.2.2.1 C.K h2 h3 h4 0 rfl w1 j w2 (C.tb w4 rfl _) (fun _ h => h) w7 hdt hn hft hj hd (fun H1 locs1 g2 g3 g4 => by rw [hs] at g2 g3; exact kk H1 locs1 ls h1 g2 g3 g4)
theorem n_getF (pc : Nat) (C : Cn q E A cc nL own d mc ms) {idx ci j h0 : Nat} {v : Value} {fs : List Value} {wr : va_W} (hl : Lk own idx ci j) (hws : ws = (h0, .inr (ci, fs)) :: wr) (hj : fs[j]? = some v) (hd : decode cc pc = .ok (.getfield idx, 3)) (kk : Nx q E A nL Q (pc + 3) lv (v :: st) ws c s) : Nx q E A nL Q pc lv (.ref h0 :: st) ws c s := fun H locs ls h1 h2 h3 h4 => by
  obtain ⟨Cl, T, N, w1, w2, w3, w4⟩ := hl
  subst hws
  rcases w4 with w4 | ⟨host, w4⟩
  · exact va_get C.1 C.2.1 (Ts := lw_tbl.filter wd_ok) C.ts (u_ws_ok w3) C.2.2.2.1 C.K h2 0 rfl w1 j w2 (C.tb w4 rfl _) (fun _ h => h) hj hd (kk H locs ls h1 h2 h3 h4)
  · exact va_getN C.1 C.2.1 (Ts := lw_tbl.filter wd_ok) C.ts (u_ws_ok w3) C.2.2.2.1 C.K h2 0 rfl w1 j w2 (C.tb w4 rfl _) (fun _ h => h) hj hd (kk H locs ls h1 h2 h3 h4)
theorem Nx.weq {pc : Nat} {ws' : va_W} {c' s' : Nat} (h1 : ws = ws') (h2 : c = c') (h3 : s = s') (k : Nx q E A nL Q pc lv st ws' c' s') : Nx q E A nL Q pc lv st ws c s := by
  subst h1; subst h2; subst h3; exact k
/-- the cells in another order -/
theorem Nx.perm {pc : Nat} {ws' : va_W} (is : List Nat) (h1 : is.map (fun i => ws[i]?) = ws'.map some) (h2 : va_nd is = true) (k : Nx q E A nL Q pc lv st ws' c s) : Nx q E A nL Q pc lv st ws c s := fun H locs ls g1 g2 g3 g4 => k H locs ls g1 (g2.sub is (by
    have : is.filterMap (fun i => ws[i]?) = (is.map (fun i => ws[i]?)).filterMap id := by rw [List.filterMap_map]; rfl
    rw [this, h1, List.filterMap_map]
    exact List.filterMap_some)) (g3.sub is h2 h1) g4
end NR
/-- behind a call: the rest of the cells, and the callee's -/
theorem nj {A0 : Nat → Prop} {D : va_G} {cl : List vw_C} {wr wc w1 : va_W} {H H1 : Heap} {F : Nat → Prop} (hP : va_P D cl (wr ++ wc) H) (hD : va_D A0 (wr ++ wc)) (hk : ∀ q : Nat, q < H.size → ¬ F q → H1[q]? = H[q]?) (hF1 : ∀ q, F q → (∃ (k : Nat) (e : va_E), wc[k]? = some (q, e)) ∨ H.size ≤ q) (hF : ∀ q, F q → A0 q) (hP1 : va_P D cl w1 H1) (hD1 : va_D F w1) : va_P D cl (wr ++ w1) H1 ∧ va_D A0 (wr ++ w1) := by
  have inw : ∀ (k : Nat) (x : Nat × va_E), wr[k]? = some x → (wr ++ wc)[k]? = some x ∧ k < wr.length := fun k x h => by
    have hl := (List.getElem?_eq_some_iff.mp h).1
    exact ⟨by rw [List.getElem?_append_left hl]; exact h, hl⟩
  have apart : ∀ (k : Nat) (x : Nat × va_E), wr[k]? = some x → x.1 < H.size ∧ ¬ F x.1 := by
    intro k x hx
    obtain ⟨h1, hl⟩ := inw k x hx
    have hlt := (hP k x h1).lt
    refine ⟨hlt, fun h => ?_⟩
    rcases hF1 _ h with ⟨k2, e, h2⟩ | h2
    · have h3 : (wr ++ wc)[wr.length + k2]? = some (x.1, e) := by
        rw [List.getElem?_append_right (by omega), show wr.length + k2 - wr.length = k2 by omega]
        exact h2
      have := hD.1 k (wr.length + k2) x (x.1, e) h1 h3 rfl
      omega
    · omega
  refine ⟨va_P.app (fun k x hx => (hP k x (inw k x hx).1).kept (hk x.1 (apart k x hx).1 (apart k x hx).2)) hP1, va_D.app ⟨fun i j x y hi hj e => hD.1 i j x y (inw i x hi).1 (inw j y hj).1 e, fun k x hx => hD.2 k x (inw k x hx).1⟩ (hD1.weaken (fun k x _ h => hF x.1 h)) (fun i j x y hx hy e => (apart i x hx).2 (by rw [e]; exact hD1.2 j y hy))⟩
theorem Jx.narrow {E : En} {A B : Nat → Prop} {U : State} {H : Heap} (h : Jx E A U H) (hAB : ∀ q, B q → A q) : Jx E B U H := ⟨vk_S.narrow h.1 hAB, h.2.1, va_Z.narrow h.2.2 hAB⟩
theorem Sx.narrow {E : En} {A B : Nat → Prop} {U : State} {H : Heap} (h : Sx E A U H) (hAB : ∀ q, B q → A q) : Sx E B U H := ⟨h.1, h.2.1, h.2.2.narrow hAB⟩
section NC
variable {q : Mc} {E : En} {A : Nat → Prop} {cc : ByteArray} {nL : Nat} {own : String} {d mc ms : Nat} {Q : State → Prop} {lv : List (Nat × Value)} {st : List Value} {ws : va_W} {c s : Nat}
/-- y is a constructor without parameters -/
def Lc0 (y : MethodName) (cb : ByteArray) (maxL : Nat) : Prop := Cond.code y cb maxL none ∈ lw_tbl ∧ Cond.instanceMethod y ∈ lw_tbl ∧ Cond.initialized y.cls ∈ lw_tbl ∧ y.name = "<init>" ∧ y.cls ≠ "java/lang/invoke/MethodHandle" ∧ y.cls ≠ "java/lang/invoke/VarHandle" ∧ (parseMethodDescriptor y.desc).map (fun d => d.parameters.length) = some 0
theorem Pn.blind {ci : Nat} {fs : List Value} {h0 sz : Nat} {vs : List Value} : FrameBlind (va_Pc vs (Pn E ci fs h0 sz)) := fun a U g mk h => ⟨h.1, h.2.1, h.2.2.1, Sx.warm (State.WarmedH.refl U) h.2.2.2⟩
theorem n_callI (pc : Nat) (C : Cn q E A cc nL own d mc ms) {idx : Nat} {y : MethodName} {cb : ByteArray} {maxL d' mc' ms' ci h1 : Nat} {fs : List Value} {sh : List (Nat × Nat)} {Pr : Sg → Prop} {wr : va_W} (hm : Lm own idx y) (hy : Lc0 y cb maxL) (hN : Ni (mL q) y cb maxL d' mc' ms' E ci fs sh Pr) (hws : ws = wr ++ [(h1, .inr (ci, fs))]) (hr : d' + 1 ≤ d ∧ maxL ≤ 40 ∧ c + mc' ≤ mc ∧ s + ms' ≤ ms) (hst : (st.map fun v => v.category).sum ≤ 8) (hd : decode cc pc = .ok (.invokespecial idx, 3))
    (kk : ∀ (as : Nat → Nat) (ρ : Sg), as 0 = h1 → Pr ρ → Nx q E A nL Q (pc + 3) lv st (wr ++ wb E sh as ρ) (c + mc') (s + ms')) : Nx q E A nL Q pc lv (.ref h1 :: st) ws c s := by
  intro H locs ls g1 g2 g3 g4
  subst hws
  obtain ⟨w1, w2, w3, w4, w5, w6, w7⟩ := hy
  have hR : (rmn d' mc' ms').frames + 1 ≤ (mR q).frames ∧ 8 + (maxL + 11) + (rmn d' mc' ms').locals ≤ (mR q).locals := by
    rw [C.2.2.2.2.2.2.1]
    show d' + 1 ≤ d ∧ 8 + (maxL + 11) + 60 * d' ≤ 60 * d
    omega
  have hcs : c + mc' ≤ (mR q).cells ∧ s + ms' ≤ (mR q).slots := by
    rw [C.2.2.2.2.2.2.1]
    exact ⟨hr.2.2.1, hr.2.2.2⟩
  have hin : (wr ++ [(h1, (.inr (ci, fs) : va_E))])[wr.length]? = some (h1, .inr (ci, fs)) := by simp
  have hF : ∀ x, va_A [(h1, .inr (ci, fs))] H.size x → A x := by
    intro x h
    rcases h with ⟨k, e, h⟩ | h
    · have a1 : k < 1 := (List.getElem?_eq_some_iff.mp h).1
      rw [show k = 0 by omega] at h
      cases h
      exact g3.2 _ _ hin
    · exact C.2.2.2.2.2.2.2.2.1 x (Nat.le_trans g4.1 h)
  have hp : PreS (mS q) H (va_Pc [.ref h1] (Pn E ci fs h1 H.size)) (.ref h1 :: []) := ⟨Pn.blind, fun U hU hW => ⟨rfl, by rw [hU], by
    rw [hU]
    intro k x hk
    have a1 : k < 1 := (List.getElem?_eq_some_iff.mp hk).1
    rw [show k = 0 by omega] at hk
    cases hk
    exact g2 _ _ hin, by rw [hU]; exact ((C.2.2.2.2.2.2.2.2.2.warm hW).kept g4.2.1).narrow hF⟩⟩
  have fin : ∀ {a : Array Value}, va_Run (mP q) (mL q) (mE q) (mR q) (mS q) (mM q) (mA q) (mB q) (mH q) (mC q) H locs c s mc' ms' (F0 (mM q) pc ls (.ref h1 :: st)) st (Qn E (va_A [(h1, .inr (ci, fs))] H.size) h1 sh Pr a) (va_A [(h1, .inr (ci, fs))] H.size) → W (mP q) (mL q) (mE q) (mR q) (mS q) (mM q) (mA q) (mB q) (mH q) (mC q) H locs c s Q (F0 (mM q) pc ls (.ref h1 :: st)) := by
    intro a hr T hT X
    obtain ⟨v, st₀, t, T', L', h0, X', hL, e1, e2, ⟨hv, ⟨as, ρ, ha0, hρ, p1, p2⟩, hz, hk⟩, stp⟩ := hr T hT X
    cases hv
    rw [h0] at hz hk
    obtain ⟨j1, j2⟩ := nj (F := va_A [(h1, .inr (ci, fs))] H.size) g2 g3 (H1 := T'.heap) (fun x a1 a2 => by rw [e1]; exact hk x a1 a2) (fun x h => h) hF (by rw [e1]; exact p1) p2
    obtain ⟨t2, a1, b1⟩ := kk as ρ ha0 hρ T'.heap (locs ++ L') ls g1 j1 j2
      ⟨Nat.le_trans g4.1 (by rw [e1]; exact hz), fun x a1 a2 => by rw [e1, hk x (Nat.lt_of_lt_of_le a1 g4.1) (fun h => a2 (hF x h))]; exact g4.2.1 x a1 a2, fun x hx => by
        rcases List.mem_append.mp hx with h | h
        · exact g4.2.2 x h
        · exact hF _ (hL x h)⟩ T' rfl X'
    exact ⟨t2, stp t2 a1, b1⟩
  rcases hm with hm | ⟨host, hm⟩
  · exact fin (va_runI (As := []) (rest := st) (nL := nL) (n := 0) (b := h1) ⟨C.1, C.2.1, C.2.2.1, C.2.2.2.1, C.ts⟩ (hN h1 H.size) ⟨callB_of (Ts := lw_tbl.filter wd_ok) 0 C.ts (good_code w1) rfl rfl rfl (C.tb w3 rfl _) (C.tb hm rfl _) ⟨w5, w6, w7⟩ hR, w4, C.tb w2 rfl _⟩ hp rfl rfl g1.1 rfl (lv_room hst) hd hcs)
  · exact fin (va_runIN (As := []) (rest := st) (nL := nL) (n := 0) (b := h1) ⟨C.1, C.2.1, C.2.2.1, C.2.2.2.1, C.ts⟩ (hN h1 H.size) ⟨va_cnB (Ts := lw_tbl.filter wd_ok) 0 C.ts (good_code w1) rfl rfl rfl (va_Nw.of rfl (C.tb hm rfl (mA q))) (C.tb w3 rfl _) ⟨w5, w6, w7⟩ hR, w4, C.tb w2 rfl _⟩ hp rfl rfl g1.1 rfl (lv_room hst) hd hcs)
theorem wo_self {E : En} {L : List Nat} {σ : Sg} {A : Nat → Prop} (h : va_D A (wo E L σ)) : va_D (inL E L) (wo E L σ) := ⟨h.1, fun k x hk => by
  unfold wo at hk
  rw [List.getElem?_map] at hk
  cases hj : L[k]? with
  | none => rw [hj] at hk; cases hk
  | some j =>
    rw [hj] at hk
    cases hk
    exact ⟨j, List.mem_of_getElem? hj, rfl⟩⟩
theorem n_callM (pc : Nat) (C : Cn q E A cc nL own d mc ms) {idx : Nat} {y : MethodName} {cb : ByteArray} {maxL d' ci n k x : Nat} {ad : Nat → Nat} {L : List Nat} {σ : Sg} {o1 : Int32 × Sg} {wr : va_W} {stk : List Value} (As : List Value) (hm : Lm own idx y) (hy : Ly y ci cb maxL none n) (hk : Lc L k (ci, x)) (hc : ci < nCls) (hM : Mi (mL q) y cb maxL none d' (E.1, ad, E.2.2) L (.ref (ad k) :: As) σ o1) (hws : ws = wr ++ wo (E.1, ad, E.2.2) L σ) (hr : d' + 1 ≤ d ∧ maxL ≤ 40 ∧ c ≤ mc ∧ s ≤ ms) (hn : As.length = n) (hs : stk = As.reverse ++ .ref (ad k) :: st) (hst : (st.map fun v => v.category).sum ≤ 8) (hd : decode cc pc = .ok (.invokevirtual idx, 3))
    (kk : Nx q E A nL Q (pc + 3) lv st (wr ++ wo (E.1, ad, E.2.2) L o1.2) c s) : Nx q E A nL Q pc lv stk ws c s := by
  intro H locs ls g1 g2 g3 g4
  subst hws
  obtain ⟨⟨T, N, hcl⟩, w1, w2, w3, w4, n1, n2, n3⟩ := hy
  have hR : (rmd d').frames + 1 ≤ (mR q).frames ∧ 8 + (maxL + 11) + (rmd d').locals ≤ (mR q).locals := by
    rw [C.2.2.2.2.2.2.1]
    show d' + 1 ≤ d ∧ 8 + (maxL + 11) + 60 * d' ≤ 60 * d
    omega
  have hcs : c + 0 ≤ (mR q).cells ∧ s + 0 ≤ (mR q).slots := by
    rw [C.2.2.2.2.2.2.1]
    exact ⟨hr.2.2.1, hr.2.2.2⟩
  have hsub : ∀ (i : Nat) (y : Nat × va_E), (wo (E.1, ad, E.2.2) L σ)[i]? = some y → (wr ++ wo (E.1, ad, E.2.2) L σ)[wr.length + i]? = some y := fun i y h => by
    rw [List.getElem?_append_right (by omega), show wr.length + i - wr.length = i by omega]
    exact h
  have p2 : va_P E.1 vwCl (wo (E.1, ad, E.2.2) L σ) H := fun i y h => g2 _ y (hsub i y h)
  have p3 : va_D A (wo (E.1, ad, E.2.2) L σ) := ⟨fun i j a b h1 h2 e => by have := g3.1 _ _ a b (hsub i a h1) (hsub j b h2) e; omega, fun i y h => g3.2 _ y (hsub i y h)⟩
  have inA : ∀ a, inL (E.1, ad, E.2.2) L a → ∃ (i : Nat) (e : va_E), (wo (E.1, ad, E.2.2) L σ)[i]? = some (a, e) := by
    intro a ⟨k, hk, e⟩
    obtain ⟨q0, -, hq⟩ := wo_get (E.1, ad, E.2.2) σ hk
    subst e
    exact ⟨q0, _, hq⟩
  have hF : ∀ a, inL (E.1, ad, E.2.2) L a → A a := fun a h => by
    obtain ⟨i, e, hi⟩ := inA a h
    exact p3.2 i _ hi
  obtain ⟨q0, -, hq⟩ := wo_get (E.1, ad, E.2.2) σ hk.1
  rw [ent_obj (E.1, ad, E.2.2) σ hk.2 hc] at hq
  have hp : PreV (mS q) H y.cls (ad k) (va_Pc (.ref (ad k) :: As) (World (E.1, ad, E.2.2) L σ)) As := ⟨World.blind, va_recv C.K p2 hcl hq, fun U hU hW => ⟨rfl, by rw [hU]; exact p2, wo_self p3, by rw [hU]; exact ((C.2.2.2.2.2.2.2.2.2.warm hW).kept g4.2.1).narrow hF⟩⟩
  have fin : ∀ {a : Array Value}, va_Run (mP q) (mL q) (mE q) (mR q) (mS q) (mM q) (mA q) (mB q) (mH q) (mC q) H locs c s 0 0 (F0 (mM q) pc ls stk) st (Qo (E.1, ad, E.2.2) L none o1 a) (inL (E.1, ad, E.2.2) L) → W (mP q) (mL q) (mE q) (mR q) (mS q) (mM q) (mA q) (mB q) (mH q) (mC q) H locs c s Q (F0 (mM q) pc ls stk) := by
    intro a hr T hT X
    obtain ⟨v, st₀, t, T', L', h0, X', hL, e1, e2, ⟨hv, ⟨u1, u2, -⟩, hz, hk⟩, stp⟩ := hr T hT X
    cases hv
    rw [h0] at hz hk
    obtain ⟨j1, j2⟩ := nj (F := inL (E.1, ad, E.2.2) L) g2 g3 (H1 := T'.heap) (fun x a1 a2 => by rw [e1]; exact hk x a1 a2) (fun x h => Or.inl (inA x h)) hF (by rw [e1]; exact u1) u2
    obtain ⟨t2, a1, b1⟩ := kk T'.heap (locs ++ L') ls g1 j1 j2
      ⟨Nat.le_trans g4.1 (by rw [e1]; exact hz), fun x a1 a2 => by rw [e1, hk x (Nat.lt_of_lt_of_le a1 g4.1) (fun h => a2 (hF x h))]; exact g4.2.1 x a1 a2, fun x hx => by
        rcases List.mem_append.mp hx with h | h
        · exact g4.2.2 x h
        · exact hF _ (hL x h)⟩ T' rfl X'
    exact ⟨t2, stp t2 a1, b1⟩
  rcases hm with hm | ⟨host, hm⟩
  · exact fin (va_runV (As := As) (rest := st) (nL := nL) (n := n) ⟨C.1, C.2.1, C.2.2.1, C.2.2.2.1, C.ts⟩ hM ⟨callB_of (Ts := lw_tbl.filter wd_ok) n C.ts (good_code w1) rfl rfl rfl (C.tb w4 rfl _) (C.tb hm rfl _) ⟨n1, n2, n3⟩ hR, C.tb w2 rfl _, C.tb w3 rfl _⟩ hp rfl hn g1.1 hs (lv_room hst) hd hcs)
  · exact fin (va_runVN (As := As) (rest := st) (nL := nL) (n := n) ⟨C.1, C.2.1, C.2.2.1, C.2.2.2.1, C.ts⟩ hM ⟨va_cnB (Ts := lw_tbl.filter wd_ok) n C.ts (good_code w1) rfl rfl rfl (va_Nw.of rfl (C.tb hm rfl (mA q))) (C.tb w4 rfl _) ⟨n1, n2, n3⟩ hR, C.tb w2 rfl _, C.tb w3 rfl _⟩ hp rfl hn g1.1 hs (lv_room hst) hd hcs)
theorem n_ret (pc : Nat) (C : Cn q E A cc nL own d mc ms) {h0 : Nat} {sh : List (Nat × Nat)} {Pr : Sg → Prop} (as : Nat → Nat) (ρ : Sg) (ha : as 0 = h0) (hρ : Pr ρ) (is : List Nat) (h1 : is.map (fun i => ws[i]?) = (wb E sh as ρ).map some) (h2 : va_nd is = true) (hcs : c ≤ mc ∧ s ≤ ms) (hd : decode cc pc = .ok (.return_, 1)) : Nx q E A nL (MQ (mB q) (Qn E A h0 sh Pr) (mA q) (mS q) mc ms A) pc lv [] ws c s := by
  refine Nx.perm is h1 h2 ?_
  intro H locs ls g1 g2 g3 g4
  refine W.widen (k := mc) (n := ms) hcs.1 hcs.2 ?_
  exact W.vret C.1 C.2.1 C.2.2.2.2.1 (fun t ht hW => ⟨rfl, ⟨as, ρ, ha, hρ, by rw [ht]; exact g2, g3⟩, g4.F ht⟩) g4.2.2 hd (hlocks := C.2.2.2.2.2.1)
end NC
