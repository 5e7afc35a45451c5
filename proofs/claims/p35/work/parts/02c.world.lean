/-! the world of cells, the static facts, the judgement Vx over (pc, locals, stack, σ) -/
abbrev En : Type := va_G × (Nat → Nat) × (Nat → ClassId) × (Nat → Nat) × (Nat → Nat)
def ent (E : En) (σ : Sg) (k : Nat) : va_E := if (lay k).1 < nCls then .inr ((lay k).1, fl_vs E.2.1 σ k (fo (lay k).1) 0) else .inl (E.2.2.1 (lay k).1, ((lay k).2, .inl (σ k)))
def wo (E : En) (L : List Nat) (σ : Sg) : va_W := L.map (fun k => (E.2.1 k, ent E σ k))
def inL (E : En) (L : List Nat) : Nat → Prop := fun a => ∃ k, k ∈ L ∧ E.2.1 k = a
def tysE (E : En) : List (ClassId × FieldType) := [(E.2.2.1 nCls, .int), (E.2.2.1 (nCls + 1), .boolean), (E.2.2.1 (nCls + 2), .char)]
/-- the cell k is there, and is of the kind and length x -/
def Lc (L : List Nat) (k : Nat) (x : Nat × Nat) : Prop := k ∈ L ∧ lay k = x
/-- the block of cells from k on is there, and has the shape sh -/
def Bk (L : List Nat) (sh : List (Nat × Nat)) (k : Nat) : Prop := ∀ (j : Nat) (x : Nat × Nat), sh[j]? = some x → Lc L (k + j) x
theorem Bk.sub {L : List Nat} {sh sh' : List (Nat × Nat)} {k : Nat} (h : Bk L sh k) (d : Nat) (hs : (sh.drop d).take sh'.length = sh') : Bk L sh' (k + d) := by
  intro j x hj
  have h1 : j < sh'.length := (List.getElem?_eq_some_iff.mp hj).1
  rw [← hs, List.getElem?_take_of_lt h1, List.getElem?_drop] at hj
  have := h (d + j) x hj
  rwa [← Nat.add_assoc] at this
theorem fl_congr (ad : Nat → Nat) {σ τ : Sg} {k : Nat} (h : τ k = σ k) : ∀ (fs : List (Option Nat)) (j : Nat), fl_vs ad τ k fs j = fl_vs ad σ k fs j
  | [], _ => rfl
  | some d :: r, j => by simp only [fl_vs]; rw [fl_congr ad h r]
  | none :: r, j => by simp only [fl_vs]; rw [fl_congr ad h r, h]
theorem ent_congr (E : En) {σ τ : Sg} {k : Nat} (h : τ k = σ k) : ent E τ k = ent E σ k := by
  unfold ent
  rw [fl_congr E.2.1 h, h]
theorem wo_get (E : En) {L : List Nat} (σ : Sg) {k : Nat} (h : k ∈ L) : ∃ q0 : Nat, L[q0]? = some k ∧ (wo E L σ)[q0]? = some (E.2.1 k, ent E σ k) := by
  obtain ⟨q0, hq⟩ := List.getElem?_of_mem h
  exact ⟨q0, hq, by unfold wo; rw [List.getElem?_map, hq]; rfl⟩
theorem wo_set {E : En} {L : List Nat} {σ τ : Sg} {A : Nat → Prop} {k q0 : Nat} (hD : va_D A (wo E L σ)) (hk : L[q0]? = some k) (hoff : ∀ j, j ≠ k → τ j = σ j) : (wo E L σ).set q0 (E.2.1 k, ent E τ k) = wo E L τ := by
  have hw : ∀ (i j : Nat), L[i]? = some j → (wo E L σ)[i]? = some (E.2.1 j, ent E σ j) := fun i j h => by unfold wo; rw [List.getElem?_map, h]; rfl
  apply List.ext_getElem?
  intro i
  by_cases hi : i = q0
  · subst hi
    have hl : i < (wo E L σ).length := (List.getElem?_eq_some_iff.mp (hw i k hk)).1
    rw [List.getElem?_set_self hl]
    unfold wo
    rw [List.getElem?_map, hk]
    rfl
  · rw [List.getElem?_set_ne (Ne.symm hi)]
    unfold wo
    rw [List.getElem?_map, List.getElem?_map]
    cases hj : L[i]? with
    | none => rfl
    | some j =>
      have hne : j ≠ k := by
        intro e
        subst e
        exact hi (hD.1 i q0 _ _ (hw i j hj) (hw q0 j hk) rfl)
      simp only [Option.map_some]
      rw [ent_congr E (hoff j hne)]
theorem sg_up_off {σ : Sg} {k i : Nat} {v : Int32} (j : Nat) (h : j ≠ k) : sg_up σ k i v j = σ j := by
  funext b
  simp [sg_up, h]
theorem sg_up_row {σ : Sg} {k i : Nat} {v : Int32} : sg_up σ k i v k = upd (σ k) i v := by
  funext b
  by_cases h : b = i
  · subst h; simp [sg_up, upd]
  · simp [sg_up, upd, h]
theorem ent_arr (E : En) (σ : Sg) {k t n : Nat} (h : lay k = (t, n)) (ht : nCls ≤ t) : ent E σ k = .inl (E.2.2.1 t, (n, .inl (σ k))) := by
  unfold ent
  rw [h]
  exact if_neg (Nat.not_lt.mpr ht)
theorem ent_obj (E : En) (σ : Sg) {k t n : Nat} (h : lay k = (t, n)) (ht : t < nCls) : ent E σ k = .inr (t, fl_vs E.2.1 σ k (fo t) 0) := by
  unfold ent
  rw [h]
  exact if_pos ht
-- the tables' words as facts of a state, for any arguments
def wd_ok (w : Cond) : Bool := goodWord w || (match w with
  | .fieldLinkNest .. => true
  | .methodLinkNest .. => true
  | _ => false)
def Tb (U : State) : Prop := ∀ w ∈ lw_tbl, wd_ok w = true → ∀ a : Array Value, w.before a U = true
theorem Tb.warm {s U : State} (hW : s.WarmedH U.vm) (h : Tb s) : Tb U := by
  intro w hw ho a
  by_cases hg : goodWord w = true
  · exact word_at hW (good_of_word hg) (h w hw ho #[])
  · have h0 := h w hw ho #[]
    cases w <;> first
      | exact va_Nw.use rfl (va_Nw.warmF hW (va_Nw.of rfl h0))
      | exact va_Nw.use rfl (va_Nw.warmM hW (va_Nw.of rfl h0))
      | (exfalso; simp [wd_ok, hg] at ho; done)
def strIx : List Nat := [35, 41, 46, 48, 50, 54, 56]
def strTx : List String := ["zecp", "0123456789", "rd", "+-", ",", "fcels", ";"]
def strLen : List Nat := [4, 10, 2, 2, 1, 5, 1]
def strByt : List (List Int32) := [[122, 101, 99, 112], [48, 49, 50, 51, 52, 53, 54, 55, 56, 57], [114, 100], [43, 45], [44], [102, 99, 101, 108, 115], [59]]
/-- what stands in the heap outside of the world: the String constants, String's static field -/
def Jx (E : En) (A : Nat → Prop) (U : State) (H : Heap) : Prop := vk_S 7 strLen strByt E.2.2.2.1 E.2.2.2.2 A U H ∧ (∀ i : Nat, i < 7 → vk_R RX7 (strIx.getD i 0) (strTx.getD i "") (E.2.2.2.1 i) U) ∧ va_Z "java/lang/String" "COMPACT_STRINGS" "Z" (.int 1) A U H
def Sx (E : En) (A : Nat → Prop) (U : State) (H : Heap) : Prop := Tb U ∧ va_K E.1 vwCl (tysE E) U ∧ Jx E A U H
theorem Sx.warm {E : En} {A : Nat → Prop} {s U : State} {H : Heap} (hW : s.WarmedH U.vm) (h : Sx E A s H) : Sx E A U H := ⟨h.1.warm hW, va_K.moved hW.alike h.2.1, vk_S.moved hW.alike h.2.2.1, fun i hi => vk_R.warm hW (h.2.2.2.1 i hi), va_Z.moved hW.alike h.2.2.2.2⟩
theorem Sx.kept {E : En} {A : Nat → Prop} {U : State} {H H1 : Heap} (h : Sx E A U H) (hq : ∀ a : Nat, a < H.size → ¬ A a → H1[a]? = H[a]?) : Sx E A U H1 := ⟨h.1, h.2.1, vk_S.kept h.2.2.1 hq, h.2.2.2.1, va_Z.kept h.2.2.2.2 hq⟩
def World (E : En) (L : List Nat) (σ : Sg) (U : State) : Prop := va_P E.1 vwCl (wo E L σ) U.heap ∧ va_D (inL E L) (wo E L σ) ∧ Sx E (inL E L) U U.heap
theorem World.same {E : En} {L : List Nat} {σ : Sg} {U V : State} (h : World E L σ U) (hh : V.heap = U.heap) (hv : V.vm = U.vm) : World E L σ V := ⟨by rw [hh]; exact h.1, h.2.1, by rw [hh]; exact Sx.warm (by rw [hv]; exact State.WarmedH.refl U) h.2.2⟩
def rv (ret : Option FieldType) (r : Int32) : Option Value := match ret with
  | none => none
  | some _ => some (.int r)
abbrev rmd (d : Nat) : Room := { frames := d, cells := 0, slots := 0, locals := 60 * d }
def Qo (E : En) (L : List Nat) (ret : Option FieldType) (o : Int32 × Sg) : Array Value → State → Outcome → State → Prop := fun _ st oc t => oc = .returned (rv ret o.1) ∧ World E L o.2 t ∧ va_F (inL E L) st t
/-- THE CONTRACT: y, called with the values vs in the world σ, answers o.1 and leaves the world o.2 -/
def Mi (l : Launch) (y : MethodName) (cc : ByteArray) (maxL : Nat) (ret : Option FieldType) (d : Nat) (E : En) (L : List Nat) (vs : List Value) (σ : Sg) (o : Int32 × Sg) : Prop :=
  Met l y [.code y cc maxL ret] (rmd d) (va_Pc vs (World E L σ)) (Qo E L ret o) 0 0 (inL E L)
abbrev Mc : Type := Program × Launch × Env × Room × State × MethodId × Array Value × List Frame × Method × Code
abbrev mP (q : Mc) : Program := q.1
abbrev mL (q : Mc) : Launch := q.2.1
abbrev mE (q : Mc) : Env := q.2.2.1
abbrev mR (q : Mc) : Room := q.2.2.2.1
abbrev mS (q : Mc) : State := q.2.2.2.2.1
abbrev mM (q : Mc) : MethodId := q.2.2.2.2.2.1
abbrev mA (q : Mc) : Array Value := q.2.2.2.2.2.2.1
abbrev mB (q : Mc) : List Frame := q.2.2.2.2.2.2.2.1
abbrev mH (q : Mc) : Method := q.2.2.2.2.2.2.2.2.1
abbrev mC (q : Mc) : Code := q.2.2.2.2.2.2.2.2.2
/-- a method's body at work: its code, its class, its room, the static facts -/
def Cx (q : Mc) (E : En) (L : List Nat) (cc : ByteArray) (nL : Nat) (own : String) (ret : Option FieldType) (d : Nat) : Prop :=
  (mP q).tables.exec = Jvm.exec ∧ (mC q).code = cc ∧ (mC q).maxLocals = nL ∧ (mS q).vm.findClass own = some (mM q).cls ∧ (mH q).sig.returnType = ret ∧ (mH q).locks = false ∧ mR q = rmd d ∧ Sx E (inL E L) (mS q) (mS q).heap
/-- from pc, with these locals and stack, in the world σ, the body comes to its end with o -/
def Vx (q : Mc) (E : En) (L : List Nat) (nL : Nat) (ret : Option FieldType) (o : Int32 × Sg) (pc : Nat) (lv : List (Nat × Value)) (st : List Value) (σ : Sg) : Prop :=
  ∀ (H : Heap) (locs : List Loc) (ls : Array Slot), lv_has ls nL lv → va_P E.1 vwCl (wo E L σ) H → va_D (inL E L) (wo E L σ) → va_S (inL E L) (mS q).heap H locs →
    W (mP q) (mL q) (mE q) (mR q) (mS q) (mM q) (mA q) (mB q) (mH q) (mC q) H locs 0 0 (MQ (mB q) (Qo E L ret o) (mA q) (mS q) 0 0 (inL E L)) (F0 (mM q) pc ls st)
theorem Mi.of {l : Launch} {y : MethodName} {cc : ByteArray} {maxL : Nat} {ret : Option FieldType} {d : Nat} {E : En} {L : List Nat} {vs : List Value} {σ : Sg} {o : Int32 × Sg} (own : String) (hown : y.cls = own) (hy : plainName y.cls = true) (hlen : (lg_sl vs).length ≤ maxL)
    (body : ∀ q : Mc, mL q = l → Cx q E L cc maxL own ret d → Vx q E L maxL ret o 0 (lv_args 0 vs) [] σ) : Mi l y cc maxL ret d E L vs σ o := by
  refine Met.ofW (cc := cc) (maxL := maxL) (ret := ret) hy rfl ?_
  intro p e s m args below meth c s₁ B hml hv
  obtain ⟨rfl, hP, hD, hX⟩ := hv
  have hl := lv_entry vs (n := maxL) hlen
  rw [lg_entry_eq]
  exact body (p, l, e, (headSpec [Cond.code y cc maxL ret] (rmd d)).room, s, m, vs.toArray, below, meth, c) rfl ⟨B.exec, B.bytes, hml, by rw [← hown]; exact findClass_of_methodNamed B.named, B.returns, B.notSynchronized, rfl, hX⟩ s.heap [] _ hl hP hD va_S.rf
/-- fewer locals, in another order -/
theorem Vx.lv {q : Mc} {E : En} {L : List Nat} {nL : Nat} {ret : Option FieldType} {o : Int32 × Sg} {pc : Nat} {lv lv' : List (Nat × Value)} {st : List Value} {σ : Sg} (ks : List Nat) (h : lv_pick lv ks = lv') (k : Vx q E L nL ret o pc lv' st σ) : Vx q E L nL ret o pc lv st σ := fun H locs ls h1 h2 h3 h4 => k H locs ls (lv_sub h1 ks h) h2 h3 h4
