/-! the rows of Vx; printed by wip/whole/gen/vrows.py -/
def lset : List (Nat × Value) → Nat → Value → List (Nat × Value)
  | [], i, v => [(i, v)]
  | (j, w) :: r, i, v => if j = i then (i, v) :: r else (j, w) :: lset r i v
def lgood : List (Nat × Value) → Nat → Bool
  | [], _ => true
  | (j, w) :: r, i => !(j + 1 == i && w.category == 2) && lgood r i
def ldis : List (Nat × Value) → Nat → Bool
  | [], _ => true
  | (j, _) :: r, i => !(j == i) && ldis r i
/-- the numbers of the locals are apart -/
def lnd : List (Nat × Value) → Bool
  | [] => true
  | (j, _) :: r => ldis r j && lnd r
theorem ldis_ne : ∀ (l : List (Nat × Value)) (i : Nat), ldis l i = true → ∀ q ∈ l, q.1 ≠ i
  | [], _, _, q, h => by cases h
  | (j, w) :: r, i, hd, q, h => by
    simp only [ldis, Bool.and_eq_true, Bool.not_eq_true', beq_eq_false_iff_ne] at hd
    rcases List.mem_cons.mp h with rfl | h
    · exact hd.1
    · exact ldis_ne r i hd.2 q h
theorem lset_in : ∀ (l : List (Nat × Value)) (i : Nat) (v : Value), lgood l i = true → lnd l = true → ∀ q ∈ lset l i v, q = (i, v) ∨ q ∈ l.filter (fun q => !(q.1 == i) && !(q.1 + 1 == i && q.2.category == 2))
  | [], i, v, _, _, q, h => by
    simp only [lset, List.mem_singleton] at h
    exact Or.inl h
  | (j, w) :: r, i, v, hg, hn, q, h => by
    simp only [lgood, Bool.and_eq_true, Bool.not_eq_true'] at hg
    simp only [lnd, Bool.and_eq_true] at hn
    have rest : ∀ (x : Nat × Value), x ∈ r → x.1 ≠ i → x ∈ ((j, w) :: r).filter (fun q => !(q.1 == i) && !(q.1 + 1 == i && q.2.category == 2)) := by
      intro x hx hne
      have h2 : ∀ (l : List (Nat × Value)), lgood l i = true → x ∈ l → (x.1 + 1 == i && x.2.category == 2) = false := by
        intro l
        induction l with
        | nil => intro _ h; cases h
        | cons y l ih =>
          intro hl hx
          obtain ⟨a, b⟩ := y
          simp only [lgood, Bool.and_eq_true, Bool.not_eq_true'] at hl
          rcases List.mem_cons.mp hx with rfl | hx
          · exact hl.1
          · exact ih hl.2 hx
      refine List.mem_filter.mpr ⟨List.mem_cons_of_mem _ hx, ?_⟩
      rw [h2 r hg.2 hx]
      simp [hne]
    unfold lset at h
    split at h
    · next e =>
      rcases List.mem_cons.mp h with h | h
      · exact Or.inl h
      · exact Or.inr (rest q h (by have := ldis_ne r j hn.1 q h; rw [e] at this; exact this))
    · next e =>
      rcases List.mem_cons.mp h with rfl | h
      · refine Or.inr (List.mem_filter.mpr ⟨List.mem_cons_self, ?_⟩)
        rw [hg.1]
        simp [e]
      · rcases lset_in r i v hg.2 hn.2 q h with h | h
        · exact Or.inl h
        · exact Or.inr (rest q (List.mem_filter.mp h).1 (by have := (List.mem_filter.mp h).2; simp at this; exact this.1))
theorem lset_has {ls : Array Slot} {nL : Nat} {l : List (Nat × Value)} {i : Nat} {v : Value} (hg : lgood l i = true) (hn : lnd l = true) (h : lv_has ls nL ((i, v) :: l.filter (fun q => !(q.1 == i) && !(q.1 + 1 == i && q.2.category == 2)))) : lv_has ls nL (lset l i v) :=
  ⟨h.1, h.2.1, fun q hq => h.2.2 q ((lset_in l i v hg hn q hq).elim (fun e => by rw [e]; exact List.mem_cons_self) (fun h => List.mem_cons_of_mem _ h))⟩
def lget : List (Nat × Value) → Nat → Option Value
  | [], _ => none
  | (j, w) :: r, i => if j = i then some w else lget r i
theorem lget_at {ls : Array Slot} {nL : Nat} : ∀ {l : List (Nat × Value)} {i : Nat} {v : Value}, (∀ q ∈ l, ls[q.1]? = some (.val q.2)) → lget l i = some v → ls[i]? = some (.val v)
  | [], _, _, _, hk => by cases hk
  | (j, w) :: r, i, v, h, hk => by
    unfold lget at hk
    split at hk
    · next e =>
      cases hk
      rw [← e]
      exact h (j, w) List.mem_cons_self
    · exact lget_at (nL := nL) (fun q hq => h q (List.mem_cons_of_mem _ hq)) hk
def p_put (σ : Sg) (k j : Nat) (v : Int32) (K : Sg → Rs) : Rs := K (sg_up σ k j v)
abbrev nz (v : Int32) : Int32 := vp_nar .boolean v
abbrev nc (v : Int32) : Int32 := vp_nar .char v
def fu : Nat := 100000000
section VR
variable {q : Mc} {E : En} {L : List Nat} {cc : ByteArray} {nL : Nat} {own : String} {ret : Option FieldType} {d : Nat} {o : Int32 × Sg} {lv : List (Nat × Value)} {st : List Value} {σ : Sg}

theorem v_iconst (pc : Nat) (C : Cx q E L cc nL own ret d) {n : Int} {v : Int32} (hd : decode cc pc = .ok (.iconst n, 1)) (hv : Int32.ofInt n = v) (k : Vx q E L nL ret o (pc + 1) lv (.int v :: st) σ) : Vx q E L nL ret o pc lv st σ := fun H locs ls h1 h2 h3 h4 => lv_iconst C.1 C.2.1 hd hv (k H locs ls h1 h2 h3 h4)
theorem v_bipush (pc : Nat) (C : Cx q E L cc nL own ret d) {n : Int} {v : Int32} (hd : decode cc pc = .ok (.bipush n, 2)) (hv : (Int8.ofInt n).toInt32 = v) (k : Vx q E L nL ret o (pc + 2) lv (.int v :: st) σ) : Vx q E L nL ret o pc lv st σ := fun H locs ls h1 h2 h3 h4 => lv_bipush C.1 C.2.1 hd hv (k H locs ls h1 h2 h3 h4)
theorem v_sipush (pc : Nat) (C : Cx q E L cc nL own ret d) {n : Int} {v : Int32} (hd : decode cc pc = .ok (.sipush n, 3)) (hv : (Int16.ofInt n).toInt32 = v) (k : Vx q E L nL ret o (pc + 3) lv (.int v :: st) σ) : Vx q E L nL ret o pc lv st σ := fun H locs ls h1 h2 h3 h4 => lv_sipush C.1 C.2.1 hd hv (k H locs ls h1 h2 h3 h4)
theorem v_ldc (pc : Nat) (C : Cx q E L cc nL own ret d) {idx : Nat} {v : Int32} (hw : Cond.constant own idx v ∈ lw_tbl) (hd : decode cc pc = .ok (.ldc idx, 2)) (k : Vx q E L nL ret o (pc + 2) lv (.int v :: st) σ) : Vx q E L nL ret o pc lv st σ := fun H locs ls h1 h2 h3 h4 => lv_ldc C.1 C.2.1 C.2.2.2.1 (C.2.2.2.2.2.2.2.1 _ hw rfl _) hd (k H locs ls h1 h2 h3 h4)
theorem v_ldcw (pc : Nat) (C : Cx q E L cc nL own ret d) {idx : Nat} {v : Int32} (hw : Cond.constant own idx v ∈ lw_tbl) (hd : decode cc pc = .ok (.ldc_w idx, 3)) (k : Vx q E L nL ret o (pc + 3) lv (.int v :: st) σ) : Vx q E L nL ret o pc lv st σ := fun H locs ls h1 h2 h3 h4 => lv_ldcw C.1 C.2.1 C.2.2.2.1 (C.2.2.2.2.2.2.2.1 _ hw rfl _) hd (k H locs ls h1 h2 h3 h4)
theorem v_ldc2 (pc : Nat) (C : Cx q E L cc nL own ret d) {idx : Nat} {v : Int64} (hw : Cond.constantLong own idx v ∈ lw_tbl) (hd : decode cc pc = .ok (.ldc2_w idx, 3)) (k : Vx q E L nL ret o (pc + 3) lv (.long v :: st) σ) : Vx q E L nL ret o pc lv st σ := fun H locs ls h1 h2 h3 h4 => lv_ldc2 C.1 C.2.1 C.2.2.2.1 (C.2.2.2.2.2.2.2.1 _ hw rfl _) hd (k H locs ls h1 h2 h3 h4)
theorem v_ldcS (pc : Nat) (C : Cx q E L cc nL own ret d) {idx : Nat} (i : Nat) (hi : i < 7) (hx : strIx.getD i 0 = idx) (ho : own = RX7) (hd : decode cc pc = .ok (.ldc idx, 2)) (k : Vx q E L nL ret o (pc + 2) lv (.ref (E.2.2.2.1 i) :: st) σ) : Vx q E L nL ret o pc lv st σ := fun H locs ls h1 h2 h3 h4 => va_ldcS C.1 C.2.1 (by rw [← ho]; exact C.2.2.2.1) (C.2.2.2.2.2.2.2.2.2.2.1 i hi) (by rw [hx]; exact hd) (k H locs ls h1 h2 h3 h4)
theorem v_iload_n (pc : Nat) (C : Cx q E L cc nL own ret d) {k : Fin 4} {i : Nat} {x : Int32} (hd : decode cc pc = .ok (.iload_n k, 1)) (hi : (k : Nat) = i) (hl : lget lv i = some (.int x)) (kk : Vx q E L nL ret o (pc + 1) lv (.int x :: st) σ) : Vx q E L nL ret o pc lv st σ := fun H locs ls h1 h2 h3 h4 => lv_iload_n C.1 C.2.1 hd hi (lget_at (nL := nL) h1.2.2 hl) (kk H locs ls h1 h2 h3 h4)
theorem v_iload (pc : Nat) (C : Cx q E L cc nL own ret d) {i : Nat} {x : Int32} (hd : decode cc pc = .ok (.iload i, 2)) (hl : lget lv i = some (.int x)) (kk : Vx q E L nL ret o (pc + 2) lv (.int x :: st) σ) : Vx q E L nL ret o pc lv st σ := fun H locs ls h1 h2 h3 h4 => lv_iload C.1 C.2.1 hd (lget_at (nL := nL) h1.2.2 hl) (kk H locs ls h1 h2 h3 h4)
theorem v_aload_n (pc : Nat) (C : Cx q E L cc nL own ret d) {k : Fin 4} {i : Nat} {x : Nat} (hd : decode cc pc = .ok (.aload_n k, 1)) (hi : (k : Nat) = i) (hl : lget lv i = some (.ref x)) (kk : Vx q E L nL ret o (pc + 1) lv (.ref x :: st) σ) : Vx q E L nL ret o pc lv st σ := fun H locs ls h1 h2 h3 h4 => lv_aload_n C.1 C.2.1 hd hi (lget_at (nL := nL) h1.2.2 hl) (kk H locs ls h1 h2 h3 h4)
theorem v_aload (pc : Nat) (C : Cx q E L cc nL own ret d) {i : Nat} {x : Nat} (hd : decode cc pc = .ok (.aload i, 2)) (hl : lget lv i = some (.ref x)) (kk : Vx q E L nL ret o (pc + 2) lv (.ref x :: st) σ) : Vx q E L nL ret o pc lv st σ := fun H locs ls h1 h2 h3 h4 => lv_aload C.1 C.2.1 hd (lget_at (nL := nL) h1.2.2 hl) (kk H locs ls h1 h2 h3 h4)
theorem v_lload_n (pc : Nat) (C : Cx q E L cc nL own ret d) {k : Fin 4} {i : Nat} {x : Int64} (hd : decode cc pc = .ok (.lload_n k, 1)) (hi : (k : Nat) = i) (hl : lget lv i = some (.long x)) (kk : Vx q E L nL ret o (pc + 1) lv (.long x :: st) σ) : Vx q E L nL ret o pc lv st σ := fun H locs ls h1 h2 h3 h4 => lv_lload_n C.1 C.2.1 hd hi (lget_at (nL := nL) h1.2.2 hl) (kk H locs ls h1 h2 h3 h4)
theorem v_lload (pc : Nat) (C : Cx q E L cc nL own ret d) {i : Nat} {x : Int64} (hd : decode cc pc = .ok (.lload i, 2)) (hl : lget lv i = some (.long x)) (kk : Vx q E L nL ret o (pc + 2) lv (.long x :: st) σ) : Vx q E L nL ret o pc lv st σ := fun H locs ls h1 h2 h3 h4 => lv_lload C.1 C.2.1 hd (lget_at (nL := nL) h1.2.2 hl) (kk H locs ls h1 h2 h3 h4)
theorem v_istore_n (pc : Nat) (C : Cx q E L cc nL own ret d) {k : Fin 4} {i : Nat} {x : Int32} {lv' : List (Nat × Value)} (hd : decode cc pc = .ok (.istore_n k, 1)) (hi : (k : Nat) = i) (hn : i < nL) (hg : (lgood lv i && lnd lv) = true) (hs : lset lv i (.int x) = lv') (kk : Vx q E L nL ret o (pc + 1) lv' st σ) : Vx q E L nL ret o pc lv (.int x :: st) σ := fun H locs ls h1 h2 h3 h4 => lv_istore_n C.1 C.2.1 hd hi h1 hn rfl (fun ls2 hl2 => kk H locs ls2 (by rw [← hs]; exact lset_has (Bool.and_eq_true_iff.mp hg).1 (Bool.and_eq_true_iff.mp hg).2 hl2) h2 h3 h4)
theorem v_istore (pc : Nat) (C : Cx q E L cc nL own ret d) {i : Nat} {x : Int32} {lv' : List (Nat × Value)} (hd : decode cc pc = .ok (.istore i, 2)) (hn : i < nL) (hg : (lgood lv i && lnd lv) = true) (hs : lset lv i (.int x) = lv') (kk : Vx q E L nL ret o (pc + 2) lv' st σ) : Vx q E L nL ret o pc lv (.int x :: st) σ := fun H locs ls h1 h2 h3 h4 => lv_istore C.1 C.2.1 hd h1 hn rfl (fun ls2 hl2 => kk H locs ls2 (by rw [← hs]; exact lset_has (Bool.and_eq_true_iff.mp hg).1 (Bool.and_eq_true_iff.mp hg).2 hl2) h2 h3 h4)
theorem v_astore_n (pc : Nat) (C : Cx q E L cc nL own ret d) {k : Fin 4} {i : Nat} {x : Nat} {lv' : List (Nat × Value)} (hd : decode cc pc = .ok (.astore_n k, 1)) (hi : (k : Nat) = i) (hn : i < nL) (hg : (lgood lv i && lnd lv) = true) (hs : lset lv i (.ref x) = lv') (kk : Vx q E L nL ret o (pc + 1) lv' st σ) : Vx q E L nL ret o pc lv (.ref x :: st) σ := fun H locs ls h1 h2 h3 h4 => lv_astore_n C.1 C.2.1 hd hi h1 hn rfl (fun ls2 hl2 => kk H locs ls2 (by rw [← hs]; exact lset_has (Bool.and_eq_true_iff.mp hg).1 (Bool.and_eq_true_iff.mp hg).2 hl2) h2 h3 h4)
theorem v_astore (pc : Nat) (C : Cx q E L cc nL own ret d) {i : Nat} {x : Nat} {lv' : List (Nat × Value)} (hd : decode cc pc = .ok (.astore i, 2)) (hn : i < nL) (hg : (lgood lv i && lnd lv) = true) (hs : lset lv i (.ref x) = lv') (kk : Vx q E L nL ret o (pc + 2) lv' st σ) : Vx q E L nL ret o pc lv (.ref x :: st) σ := fun H locs ls h1 h2 h3 h4 => lv_astore C.1 C.2.1 hd h1 hn rfl (fun ls2 hl2 => kk H locs ls2 (by rw [← hs]; exact lset_has (Bool.and_eq_true_iff.mp hg).1 (Bool.and_eq_true_iff.mp hg).2 hl2) h2 h3 h4)
theorem lget_pl {l : List (Nat × Value)} : ∀ {i : Nat} {v : Value}, lget l i = some v → ∃ k : Nat, l[k]? = some (i, v) := by
  induction l with
  | nil => intro i v h; cases h
  | cons y r ih =>
    intro i v h
    obtain ⟨j, w⟩ := y
    unfold lget at h
    split at h
    · next e => cases h; exact ⟨0, by rw [e]; rfl⟩
    · obtain ⟨k, hk⟩ := ih h
      exact ⟨k + 1, by rw [List.getElem?_cons_succ]; exact hk⟩
theorem v_iinc (pc : Nat) (C : Cx q E L cc nL own ret d) {i : Nat} {n : Int} {x v : Int32} {lv' : List (Nat × Value)} (hd : decode cc pc = .ok (.iinc i n, 3)) (hl : lget lv i = some (.int x)) (hv : x + Int32.ofInt n = v) (hn : i < nL) (hg : (lgood lv i && lnd lv) = true) (hs : lset lv i (.int v) = lv') (kk : Vx q E L nL ret o (pc + 3) lv' st σ) : Vx q E L nL ret o pc lv st σ := by
  obtain ⟨k, hk⟩ := lget_pl hl
  exact fun H locs ls h1 h2 h3 h4 => lv_iinc C.1 C.2.1 hd h1 hk hv hn rfl (fun ls2 hl2 => kk H locs ls2 (by rw [← hs]; exact lset_has (Bool.and_eq_true_iff.mp hg).1 (Bool.and_eq_true_iff.mp hg).2 hl2) h2 h3 h4)
theorem v_iadd (pc : Nat) (C : Cx q E L cc nL own ret d) {x y : Int32} (hd : decode cc pc = .ok (.iadd, 1)) (kk : Vx q E L nL ret o (pc + 1) lv (.int (x + y) :: st) σ) : Vx q E L nL ret o pc lv (.int y :: .int x :: st) σ := fun H locs ls h1 h2 h3 h4 => lv_iadd C.1 C.2.1 hd (kk H locs ls h1 h2 h3 h4)
theorem v_isub (pc : Nat) (C : Cx q E L cc nL own ret d) {x y : Int32} (hd : decode cc pc = .ok (.isub, 1)) (kk : Vx q E L nL ret o (pc + 1) lv (.int (x - y) :: st) σ) : Vx q E L nL ret o pc lv (.int y :: .int x :: st) σ := fun H locs ls h1 h2 h3 h4 => lv_isub C.1 C.2.1 hd (kk H locs ls h1 h2 h3 h4)
theorem v_imul (pc : Nat) (C : Cx q E L cc nL own ret d) {x y : Int32} (hd : decode cc pc = .ok (.imul, 1)) (kk : Vx q E L nL ret o (pc + 1) lv (.int (x * y) :: st) σ) : Vx q E L nL ret o pc lv (.int y :: .int x :: st) σ := fun H locs ls h1 h2 h3 h4 => lv_imul C.1 C.2.1 hd (kk H locs ls h1 h2 h3 h4)
theorem v_iand (pc : Nat) (C : Cx q E L cc nL own ret d) {x y : Int32} (hd : decode cc pc = .ok (.iand, 1)) (kk : Vx q E L nL ret o (pc + 1) lv (.int (x &&& y) :: st) σ) : Vx q E L nL ret o pc lv (.int y :: .int x :: st) σ := fun H locs ls h1 h2 h3 h4 => lv_iand C.1 C.2.1 hd (kk H locs ls h1 h2 h3 h4)
theorem v_ior (pc : Nat) (C : Cx q E L cc nL own ret d) {x y : Int32} (hd : decode cc pc = .ok (.ior, 1)) (kk : Vx q E L nL ret o (pc + 1) lv (.int (x ||| y) :: st) σ) : Vx q E L nL ret o pc lv (.int y :: .int x :: st) σ := fun H locs ls h1 h2 h3 h4 => lv_ior C.1 C.2.1 hd (kk H locs ls h1 h2 h3 h4)
theorem v_ixor (pc : Nat) (C : Cx q E L cc nL own ret d) {x y : Int32} (hd : decode cc pc = .ok (.ixor, 1)) (kk : Vx q E L nL ret o (pc + 1) lv (.int (x ^^^ y) :: st) σ) : Vx q E L nL ret o pc lv (.int y :: .int x :: st) σ := fun H locs ls h1 h2 h3 h4 => lv_ixor C.1 C.2.1 hd (kk H locs ls h1 h2 h3 h4)
theorem v_ishl (pc : Nat) (C : Cx q E L cc nL own ret d) {x y : Int32} (hd : decode cc pc = .ok (.ishl, 1)) (kk : Vx q E L nL ret o (pc + 1) lv (.int (x <<< (y &&& 31)) :: st) σ) : Vx q E L nL ret o pc lv (.int y :: .int x :: st) σ := fun H locs ls h1 h2 h3 h4 => lv_ishl C.1 C.2.1 hd (kk H locs ls h1 h2 h3 h4)
theorem v_ishr (pc : Nat) (C : Cx q E L cc nL own ret d) {x y : Int32} (hd : decode cc pc = .ok (.ishr, 1)) (kk : Vx q E L nL ret o (pc + 1) lv (.int (x >>> (y &&& 31)) :: st) σ) : Vx q E L nL ret o pc lv (.int y :: .int x :: st) σ := fun H locs ls h1 h2 h3 h4 => lv_ishr C.1 C.2.1 hd (kk H locs ls h1 h2 h3 h4)
theorem v_idiv (pc : Nat) (C : Cx q E L cc nL own ret d) {x y : Int32} {K : Rs} (hd : decode cc pc = .ok (.idiv, 1)) (hf : p_nz y K = some o) (kk : K = some o → Vx q E L nL ret o (pc + 1) lv (.int (x / y) :: st) σ) : Vx q E L nL ret o pc lv (.int y :: .int x :: st) σ := fun H locs ls h1 h2 h3 h4 => lv_idiv C.1 C.2.1 hd (p_nz_of hf).1 (kk (p_nz_of hf).2 H locs ls h1 h2 h3 h4)
theorem v_idiv_c (pc : Nat) (C : Cx q E L cc nL own ret d) {x y : Int32} (hd : decode cc pc = .ok (.idiv, 1)) (hf : ¬ y = 0) (kk : Vx q E L nL ret o (pc + 1) lv (.int (x / y) :: st) σ) : Vx q E L nL ret o pc lv (.int y :: .int x :: st) σ := fun H locs ls h1 h2 h3 h4 => lv_idiv C.1 C.2.1 hd hf (kk H locs ls h1 h2 h3 h4)
theorem v_irem (pc : Nat) (C : Cx q E L cc nL own ret d) {x y : Int32} {K : Rs} (hd : decode cc pc = .ok (.irem, 1)) (hf : p_nz y K = some o) (kk : K = some o → Vx q E L nL ret o (pc + 1) lv (.int (x - x / y * y) :: st) σ) : Vx q E L nL ret o pc lv (.int y :: .int x :: st) σ := fun H locs ls h1 h2 h3 h4 => lv_irem C.1 C.2.1 hd (p_nz_of hf).1 (kk (p_nz_of hf).2 H locs ls h1 h2 h3 h4)
theorem v_irem_c (pc : Nat) (C : Cx q E L cc nL own ret d) {x y : Int32} (hd : decode cc pc = .ok (.irem, 1)) (hf : ¬ y = 0) (kk : Vx q E L nL ret o (pc + 1) lv (.int (x - x / y * y) :: st) σ) : Vx q E L nL ret o pc lv (.int y :: .int x :: st) σ := fun H locs ls h1 h2 h3 h4 => lv_irem C.1 C.2.1 hd hf (kk H locs ls h1 h2 h3 h4)
theorem v_ineg (pc : Nat) (C : Cx q E L cc nL own ret d) {x : Int32} (hd : decode cc pc = .ok (.ineg, 1)) (kk : Vx q E L nL ret o (pc + 1) lv (.int (-x) :: st) σ) : Vx q E L nL ret o pc lv (.int x :: st) σ := fun H locs ls h1 h2 h3 h4 => lv_ineg C.1 C.2.1 hd (kk H locs ls h1 h2 h3 h4)
theorem v_land (pc : Nat) (C : Cx q E L cc nL own ret d) {x y : Int64} (hd : decode cc pc = .ok (.land, 1)) (kk : Vx q E L nL ret o (pc + 1) lv (.long (x &&& y) :: st) σ) : Vx q E L nL ret o pc lv (.long y :: .long x :: st) σ := fun H locs ls h1 h2 h3 h4 => lv_land C.1 C.2.1 hd (kk H locs ls h1 h2 h3 h4)
theorem v_lor (pc : Nat) (C : Cx q E L cc nL own ret d) {x y : Int64} (hd : decode cc pc = .ok (.lor, 1)) (kk : Vx q E L nL ret o (pc + 1) lv (.long (x ||| y) :: st) σ) : Vx q E L nL ret o pc lv (.long y :: .long x :: st) σ := fun H locs ls h1 h2 h3 h4 => lv_lor C.1 C.2.1 hd (kk H locs ls h1 h2 h3 h4)
theorem v_lushr (pc : Nat) (C : Cx q E L cc nL own ret d) {x : Int64} {y : Int32} (hd : decode cc pc = .ok (.lushr, 1)) (kk : Vx q E L nL ret o (pc + 1) lv (.long ((x.toUInt64 >>> (y.toInt64.toUInt64 &&& Int64.toUInt64 63)).toInt64) :: st) σ) : Vx q E L nL ret o pc lv (.int y :: .long x :: st) σ := fun H locs ls h1 h2 h3 h4 => lv_lushr C.1 C.2.1 hd rfl (kk H locs ls h1 h2 h3 h4)
theorem v_lshr (pc : Nat) (C : Cx q E L cc nL own ret d) {x : Int64} {y : Int32} (hd : decode cc pc = .ok (.lshr, 1)) (kk : Vx q E L nL ret o (pc + 1) lv (.long (x >>> (y.toInt64 &&& 63)) :: st) σ) : Vx q E L nL ret o pc lv (.int y :: .long x :: st) σ := fun H locs ls h1 h2 h3 h4 => lv_lshr C.1 C.2.1 hd rfl (kk H locs ls h1 h2 h3 h4)
theorem v_lshl (pc : Nat) (C : Cx q E L cc nL own ret d) {x : Int64} {y : Int32} (hd : decode cc pc = .ok (.lshl, 1)) (kk : Vx q E L nL ret o (pc + 1) lv (.long (x <<< (y.toInt64 &&& 63)) :: st) σ) : Vx q E L nL ret o pc lv (.int y :: .long x :: st) σ := fun H locs ls h1 h2 h3 h4 => lv_lshl C.1 C.2.1 hd rfl (kk H locs ls h1 h2 h3 h4)
theorem v_i2l (pc : Nat) (C : Cx q E L cc nL own ret d) {x : Int32} (hd : decode cc pc = .ok (.i2l, 1)) (kk : Vx q E L nL ret o (pc + 1) lv (.long x.toInt64 :: st) σ) : Vx q E L nL ret o pc lv (.int x :: st) σ := fun H locs ls h1 h2 h3 h4 => lv_i2l C.1 C.2.1 hd rfl (kk H locs ls h1 h2 h3 h4)
theorem v_l2i (pc : Nat) (C : Cx q E L cc nL own ret d) {x : Int64} (hd : decode cc pc = .ok (.l2i, 1)) (kk : Vx q E L nL ret o (pc + 1) lv (.int x.toInt32 :: st) σ) : Vx q E L nL ret o pc lv (.long x :: st) σ := fun H locs ls h1 h2 h3 h4 => lv_l2i C.1 C.2.1 hd rfl (kk H locs ls h1 h2 h3 h4)
theorem v_i2c (pc : Nat) (C : Cx q E L cc nL own ret d) {x : Int32} (hd : decode cc pc = .ok (.i2c, 1)) (kk : Vx q E L nL ret o (pc + 1) lv (.int (x.toUInt32 % 65536).toInt32 :: st) σ) : Vx q E L nL ret o pc lv (.int x :: st) σ := fun H locs ls h1 h2 h3 h4 => lv_i2c C.1 C.2.1 hd rfl (kk H locs ls h1 h2 h3 h4)
theorem v_dup (pc : Nat) (C : Cx q E L cc nL own ret d) {w : Value} (hd : decode cc pc = .ok (.dup, 1)) (hw : w.category = 1) (kk : Vx q E L nL ret o (pc + 1) lv (w :: w :: st) σ) : Vx q E L nL ret o pc lv (w :: st) σ := fun H locs ls h1 h2 h3 h4 => lv_dup C.1 C.2.1 hd hw (kk H locs ls h1 h2 h3 h4)
theorem v_pop (pc : Nat) (C : Cx q E L cc nL own ret d) {w : Value} (hd : decode cc pc = .ok (.pop, 1)) (hw : w.category = 1) (kk : Vx q E L nL ret o (pc + 1) lv st σ) : Vx q E L nL ret o pc lv (w :: st) σ := fun H locs ls h1 h2 h3 h4 => lv_pop C.1 C.2.1 hd hw (kk H locs ls h1 h2 h3 h4)
theorem v_dup2 (pc : Nat) (C : Cx q E L cc nL own ret d) {w u : Value} (hd : decode cc pc = .ok (.dup2, 1)) (hw : w.category = 1) (hu : u.category = 1) (kk : Vx q E L nL ret o (pc + 1) lv (w :: u :: w :: u :: st) σ) : Vx q E L nL ret o pc lv (w :: u :: st) σ := fun H locs ls h1 h2 h3 h4 => lv_dup2_11 C.1 C.2.1 hd hw hu (kk H locs ls h1 h2 h3 h4)
theorem v_if_eq (pc : Nat) (C : Cx q E L cc nL own ret d) {x : Int32} {off : Int} {tgt : Nat} {A B : Rs} (hd : decode cc pc = .ok (.ifCond .eq off, 3)) (ht : (pc : Int) + off = (tgt : Int)) (hf : (if x = 0 then A else B) = some o) (kt : A = some o → Vx q E L nL ret o tgt lv st σ) (kf : B = some o → Vx q E L nL ret o (pc + 3) lv st σ) : Vx q E L nL ret o pc lv (.int x :: st) σ := fun H locs ls h1 h2 h3 h4 => lv_if_eq C.1 C.2.1 hd ht (fun hc => kt ((p_ite hf).1 hc) H locs ls h1 h2 h3 h4) (fun hc => kf ((p_ite hf).2 hc) H locs ls h1 h2 h3 h4)
theorem v_if_lt (pc : Nat) (C : Cx q E L cc nL own ret d) {x : Int32} {off : Int} {tgt : Nat} {A B : Rs} (hd : decode cc pc = .ok (.ifCond .lt off, 3)) (ht : (pc : Int) + off = (tgt : Int)) (hf : (if x < 0 then A else B) = some o) (kt : A = some o → Vx q E L nL ret o tgt lv st σ) (kf : B = some o → Vx q E L nL ret o (pc + 3) lv st σ) : Vx q E L nL ret o pc lv (.int x :: st) σ := fun H locs ls h1 h2 h3 h4 => lv_if_lt C.1 C.2.1 hd ht (fun hc => kt ((p_ite hf).1 hc) H locs ls h1 h2 h3 h4) (fun hc => kf ((p_ite hf).2 hc) H locs ls h1 h2 h3 h4)
theorem v_if_ge (pc : Nat) (C : Cx q E L cc nL own ret d) {x : Int32} {off : Int} {tgt : Nat} {A B : Rs} (hd : decode cc pc = .ok (.ifCond .ge off, 3)) (ht : (pc : Int) + off = (tgt : Int)) (hf : (if 0 ≤ x then A else B) = some o) (kt : A = some o → Vx q E L nL ret o tgt lv st σ) (kf : B = some o → Vx q E L nL ret o (pc + 3) lv st σ) : Vx q E L nL ret o pc lv (.int x :: st) σ := fun H locs ls h1 h2 h3 h4 => lv_if_ge C.1 C.2.1 hd ht (fun hc => kt ((p_ite hf).1 hc) H locs ls h1 h2 h3 h4) (fun hc => kf ((p_ite hf).2 hc) H locs ls h1 h2 h3 h4)
theorem v_if_gt (pc : Nat) (C : Cx q E L cc nL own ret d) {x : Int32} {off : Int} {tgt : Nat} {A B : Rs} (hd : decode cc pc = .ok (.ifCond .gt off, 3)) (ht : (pc : Int) + off = (tgt : Int)) (hf : (if 0 < x then A else B) = some o) (kt : A = some o → Vx q E L nL ret o tgt lv st σ) (kf : B = some o → Vx q E L nL ret o (pc + 3) lv st σ) : Vx q E L nL ret o pc lv (.int x :: st) σ := fun H locs ls h1 h2 h3 h4 => lv_if_gt C.1 C.2.1 hd ht (fun hc => kt ((p_ite hf).1 hc) H locs ls h1 h2 h3 h4) (fun hc => kf ((p_ite hf).2 hc) H locs ls h1 h2 h3 h4)
theorem v_if_le (pc : Nat) (C : Cx q E L cc nL own ret d) {x : Int32} {off : Int} {tgt : Nat} {A B : Rs} (hd : decode cc pc = .ok (.ifCond .le off, 3)) (ht : (pc : Int) + off = (tgt : Int)) (hf : (if x ≤ 0 then A else B) = some o) (kt : A = some o → Vx q E L nL ret o tgt lv st σ) (kf : B = some o → Vx q E L nL ret o (pc + 3) lv st σ) : Vx q E L nL ret o pc lv (.int x :: st) σ := fun H locs ls h1 h2 h3 h4 => lv_if_le C.1 C.2.1 hd ht (fun hc => kt ((p_ite hf).1 hc) H locs ls h1 h2 h3 h4) (fun hc => kf ((p_ite hf).2 hc) H locs ls h1 h2 h3 h4)
theorem v_if_ne (pc : Nat) (C : Cx q E L cc nL own ret d) {x : Int32} {off : Int} {tgt : Nat} {A B : Rs} (hd : decode cc pc = .ok (.ifCond .ne off, 3)) (ht : (pc : Int) + off = (tgt : Int)) (hf : (if x = 0 then B else A) = some o) (kt : A = some o → Vx q E L nL ret o tgt lv st σ) (kf : B = some o → Vx q E L nL ret o (pc + 3) lv st σ) : Vx q E L nL ret o pc lv (.int x :: st) σ := fun H locs ls h1 h2 h3 h4 => lv_if_ne C.1 C.2.1 hd ht (fun hc => kt ((p_ite hf).2 hc) H locs ls h1 h2 h3 h4) (fun hc => kf ((p_ite hf).1 hc) H locs ls h1 h2 h3 h4)
theorem v_icmp_eq (pc : Nat) (C : Cx q E L cc nL own ret d) {x y : Int32} {off : Int} {tgt : Nat} {A B : Rs} (hd : decode cc pc = .ok (.if_icmp .eq off, 3)) (ht : (pc : Int) + off = (tgt : Int)) (hf : (if x = y then A else B) = some o) (kt : A = some o → Vx q E L nL ret o tgt lv st σ) (kf : B = some o → Vx q E L nL ret o (pc + 3) lv st σ) : Vx q E L nL ret o pc lv (.int y :: .int x :: st) σ := fun H locs ls h1 h2 h3 h4 => lv_icmp_eq C.1 C.2.1 hd ht (fun hc => kt ((p_ite hf).1 hc) H locs ls h1 h2 h3 h4) (fun hc => kf ((p_ite hf).2 hc) H locs ls h1 h2 h3 h4)
theorem v_icmp_lt (pc : Nat) (C : Cx q E L cc nL own ret d) {x y : Int32} {off : Int} {tgt : Nat} {A B : Rs} (hd : decode cc pc = .ok (.if_icmp .lt off, 3)) (ht : (pc : Int) + off = (tgt : Int)) (hf : (if x < y then A else B) = some o) (kt : A = some o → Vx q E L nL ret o tgt lv st σ) (kf : B = some o → Vx q E L nL ret o (pc + 3) lv st σ) : Vx q E L nL ret o pc lv (.int y :: .int x :: st) σ := fun H locs ls h1 h2 h3 h4 => lv_icmp_lt C.1 C.2.1 hd ht (fun hc => kt ((p_ite hf).1 hc) H locs ls h1 h2 h3 h4) (fun hc => kf ((p_ite hf).2 hc) H locs ls h1 h2 h3 h4)
theorem v_icmp_ge (pc : Nat) (C : Cx q E L cc nL own ret d) {x y : Int32} {off : Int} {tgt : Nat} {A B : Rs} (hd : decode cc pc = .ok (.if_icmp .ge off, 3)) (ht : (pc : Int) + off = (tgt : Int)) (hf : (if y ≤ x then A else B) = some o) (kt : A = some o → Vx q E L nL ret o tgt lv st σ) (kf : B = some o → Vx q E L nL ret o (pc + 3) lv st σ) : Vx q E L nL ret o pc lv (.int y :: .int x :: st) σ := fun H locs ls h1 h2 h3 h4 => lv_icmp_ge C.1 C.2.1 hd ht (fun hc => kt ((p_ite hf).1 hc) H locs ls h1 h2 h3 h4) (fun hc => kf ((p_ite hf).2 hc) H locs ls h1 h2 h3 h4)
theorem v_icmp_gt (pc : Nat) (C : Cx q E L cc nL own ret d) {x y : Int32} {off : Int} {tgt : Nat} {A B : Rs} (hd : decode cc pc = .ok (.if_icmp .gt off, 3)) (ht : (pc : Int) + off = (tgt : Int)) (hf : (if y < x then A else B) = some o) (kt : A = some o → Vx q E L nL ret o tgt lv st σ) (kf : B = some o → Vx q E L nL ret o (pc + 3) lv st σ) : Vx q E L nL ret o pc lv (.int y :: .int x :: st) σ := fun H locs ls h1 h2 h3 h4 => lv_icmp_gt C.1 C.2.1 hd ht (fun hc => kt ((p_ite hf).1 hc) H locs ls h1 h2 h3 h4) (fun hc => kf ((p_ite hf).2 hc) H locs ls h1 h2 h3 h4)
theorem v_icmp_le (pc : Nat) (C : Cx q E L cc nL own ret d) {x y : Int32} {off : Int} {tgt : Nat} {A B : Rs} (hd : decode cc pc = .ok (.if_icmp .le off, 3)) (ht : (pc : Int) + off = (tgt : Int)) (hf : (if x ≤ y then A else B) = some o) (kt : A = some o → Vx q E L nL ret o tgt lv st σ) (kf : B = some o → Vx q E L nL ret o (pc + 3) lv st σ) : Vx q E L nL ret o pc lv (.int y :: .int x :: st) σ := fun H locs ls h1 h2 h3 h4 => lv_icmp_le C.1 C.2.1 hd ht (fun hc => kt ((p_ite hf).1 hc) H locs ls h1 h2 h3 h4) (fun hc => kf ((p_ite hf).2 hc) H locs ls h1 h2 h3 h4)
theorem v_icmp_ne (pc : Nat) (C : Cx q E L cc nL own ret d) {x y : Int32} {off : Int} {tgt : Nat} {A B : Rs} (hd : decode cc pc = .ok (.if_icmp .ne off, 3)) (ht : (pc : Int) + off = (tgt : Int)) (hf : (if x = y then B else A) = some o) (kt : A = some o → Vx q E L nL ret o tgt lv st σ) (kf : B = some o → Vx q E L nL ret o (pc + 3) lv st σ) : Vx q E L nL ret o pc lv (.int y :: .int x :: st) σ := fun H locs ls h1 h2 h3 h4 => lv_icmp_ne C.1 C.2.1 hd ht (fun hc => kt ((p_ite hf).2 hc) H locs ls h1 h2 h3 h4) (fun hc => kf ((p_ite hf).1 hc) H locs ls h1 h2 h3 h4)
theorem v_goto (pc : Nat) (C : Cx q E L cc nL own ret d) {off : Int} {tgt : Nat} (hd : decode cc pc = .ok (.goto off, 3)) (ht : (pc : Int) + off = (tgt : Int)) (kk : Vx q E L nL ret o tgt lv st σ) : Vx q E L nL ret o pc lv st σ := fun H locs ls h1 h2 h3 h4 => lv_goto C.1 C.2.1 hd ht (kk H locs ls h1 h2 h3 h4)
theorem v_case {x v : Int32} {A B : Rs} {pc : Nat} (hf : (if x = v then A else B) = some o) (kt : x = v → A = some o → Vx q E L nL ret o pc lv (.int x :: st) σ) (kf : ¬ x = v → B = some o → Vx q E L nL ret o pc lv (.int x :: st) σ) : Vx q E L nL ret o pc lv (.int x :: st) σ := by
  by_cases h : x = v
  · exact kt h ((p_ite hf).1 h)
  · exact kf h ((p_ite hf).2 h)
theorem v_tabIn (pc : Nat) (C : Cx q E L cc nL own ret d) {x v : Int32} {dflt lo hi : Int} {offs : Array Int} {len tgt : Nat} {off : Int} (hx : x = v) (hd : decode cc pc = .ok (.tableswitch dflt lo hi offs, len)) (h : (decide (¬ v.toInt < lo) && decide (¬ hi < v.toInt)) = true) (ho : offs[(v.toInt - lo).toNat]? = some off) (ht : (pc : Int) + off = (tgt : Int)) (kk : Vx q E L nL ret o tgt lv st σ) : Vx q E L nL ret o pc lv (.int x :: st) σ := by
  subst hx
  simp only [Bool.and_eq_true, decide_eq_true_eq] at h
  exact fun H locs ls h1 h2 h3 h4 => lv_tableIn C.1 C.2.1 hd h.1 h.2 ho ht (kk H locs ls h1 h2 h3 h4)
theorem v_tabOut (pc : Nat) (C : Cx q E L cc nL own ret d) {x : Int32} {dflt lo hi : Int} {offs : Array Int} {len tgt : Nat} (hd : decode cc pc = .ok (.tableswitch dflt lo hi offs, len)) (h : x.toInt < lo ∨ hi < x.toInt) (ht : (pc : Int) + dflt = (tgt : Int)) (kk : Vx q E L nL ret o tgt lv st σ) : Vx q E L nL ret o pc lv (.int x :: st) σ := fun H locs ls h1 h2 h3 h4 => lv_tableOut C.1 C.2.1 hd h ht (kk H locs ls h1 h2 h3 h4)
theorem v_look (pc : Nat) (C : Cx q E L cc nL own ret d) {x : Int32} {dflt : Int} {ps : Array (Int × Int)} {len tgt : Nat} {off : Int} (hd : decode cc pc = .ok (.lookupswitch dflt ps, len)) (hp : (ps.toList.zip (ps.toList.drop 1)).all (fun (a, next) => a.1 < next.1) = true) (ho : Op.lookupswitch.offset ps.toList dflt x.toInt = off) (ht : (pc : Int) + off = (tgt : Int)) (kk : Vx q E L nL ret o tgt lv st σ) : Vx q E L nL ret o pc lv (.int x :: st) σ := fun H locs ls h1 h2 h3 h4 => lv_lookup C.1 C.2.1 hd hp ho ht (kk H locs ls h1 h2 h3 h4)
/-- the field link idx of the class own is slot j of the class ci -/
def Lk (own : String) (idx ci j : Nat) : Prop := ∃ (Cn : String) (T : u_T) (N : Nat), vwCl[ci]? = some (Cn, T, N) ∧ j < N ∧ (∀ w ∈ u_ws Cn T N, w ∈ lw_tbl) ∧ (Cond.fieldLink own idx (T j).1 (T j).2.1 (T j).2.2.1 ∈ lw_tbl ∨ ∃ host, Cond.fieldLinkNest own idx (T j).1 (T j).2.1 (T j).2.2.1 host ∈ lw_tbl)
/-- and may be written: its type is ty -/
def Lp (own : String) (idx ci j : Nat) (ty : FieldType) : Prop := ∃ (Cn : String) (T : u_T) (N : Nat) (t0 : Nat → FieldType), vwCl[ci]? = some (Cn, T, N) ∧ j < N ∧ (∀ w ∈ u_ws Cn T N, w ∈ lw_tbl) ∧ (Cond.fieldLink own idx (T j).1 (T j).2.1 (T j).2.2.1 ∈ lw_tbl ∨ ∃ host, Cond.fieldLinkNest own idx (T j).1 (T j).2.1 (T j).2.2.1 host ∈ lw_tbl) ∧ (∀ k, k < N → parseFieldDescriptor (T k).2.2.1 = some (t0 k)) ∧ (∀ a, a < N → ∀ b, b < N → a ≠ b → (T a).2.1 ≠ (T b).2.1) ∧ (T j).2.2.2 = false ∧ t0 j = ty
theorem Cx.tb (C : Cx q E L cc nL own ret d) {w : Cond} (h : w ∈ lw_tbl) (ho : wd_ok w = true) (a : Array Value) : w.before a (mS q) = true := C.2.2.2.2.2.2.2.1 w h ho a
theorem Cx.ts (C : Cx q E L cc nL own ret d) : ∀ w ∈ lw_tbl.filter wd_ok, w.before (mA q) (mS q) = true := fun w h => C.tb (List.mem_filter.mp h).1 (List.mem_filter.mp h).2 _
theorem Cx.K (C : Cx q E L cc nL own ret d) : va_K E.1 vwCl (tysE E) (mS q) := C.2.2.2.2.2.2.2.2.1
theorem u_ws_ok {Cn : String} {T : u_T} {N : Nat} (h : ∀ w ∈ u_ws Cn T N, w ∈ lw_tbl) : ∀ w ∈ u_ws Cn T N, w ∈ lw_tbl.filter wd_ok := fun w hw => List.mem_filter.mpr ⟨h w hw, by
  obtain ⟨k, -, rfl⟩ := List.mem_map.mp hw
  unfold u_lay
  split <;> rfl⟩
theorem v_getR (pc : Nat) (C : Cx q E L cc nL own ret d) {idx ci n j k off : Nat} (hl : Lk own idx ci j) (hk : Lc L k (ci, n)) (hc : ci < nCls) (hj : (fo ci)[j]? = some (some off)) (hd : decode cc pc = .ok (.getfield idx, 3)) (kk : Vx q E L nL ret o (pc + 3) lv (.ref (E.2.1 (k + off)) :: st) σ) : Vx q E L nL ret o pc lv (.ref (E.2.1 k) :: st) σ := by
  intro H locs ls h1 h2 h3 h4
  obtain ⟨Cn, T, N, hcl, hjN, hin, hlk⟩ := hl
  obtain ⟨q0, -, hq⟩ := wo_get E σ hk.1
  rw [ent_obj E σ hk.2 hc] at hq
  rcases hlk with hlk | ⟨host, hlk⟩
  · exact va_get C.1 C.2.1 (Ts := lw_tbl.filter wd_ok) C.ts (u_ws_ok hin) C.2.2.2.1 C.K h2 q0 hq hcl j hjN (C.tb hlk rfl _) (fun _ h => h) (fl_ref E.2.1 σ k off (fo ci) 0 j hj) hd (kk H locs ls h1 h2 h3 h4)
  · exact va_getN C.1 C.2.1 (Ts := lw_tbl.filter wd_ok) C.ts (u_ws_ok hin) C.2.2.2.1 C.K h2 q0 hq hcl j hjN (C.tb hlk rfl _) (fun _ h => h) (fl_ref E.2.1 σ k off (fo ci) 0 j hj) hd (kk H locs ls h1 h2 h3 h4)
theorem v_getI (pc : Nat) (C : Cx q E L cc nL own ret d) {idx ci n j k dum : Nat} (hl : Lk own idx ci j) (hk : Lc L k (ci, n)) (hc : ci < nCls) (hj : (fo ci)[j]? = some none) (hd : decode cc pc = .ok (.getfield idx, 3)) (kk : Vx q E L nL ret o (pc + 3) lv (.int (σ k j) :: st) σ) : Vx q E L nL ret o pc lv (.ref (E.2.1 k) :: st) σ := by
  intro H locs ls h1 h2 h3 h4
  obtain ⟨Cn, T, N, hcl, hjN, hin, hlk⟩ := hl
  obtain ⟨q0, -, hq⟩ := wo_get E σ hk.1
  rw [ent_obj E σ hk.2 hc] at hq
  rcases hlk with hlk | ⟨host, hlk⟩
  · exact va_get C.1 C.2.1 (Ts := lw_tbl.filter wd_ok) C.ts (u_ws_ok hin) C.2.2.2.1 C.K h2 q0 hq hcl j hjN (C.tb hlk rfl _) (fun _ h => h) ((by have := fl_int E.2.1 σ k (fo ci) 0 j hj; rwa [Nat.zero_add] at this)) hd (kk H locs ls h1 h2 h3 h4)
  · exact va_getN C.1 C.2.1 (Ts := lw_tbl.filter wd_ok) C.ts (u_ws_ok hin) C.2.2.2.1 C.K h2 q0 hq hcl j hjN (C.tb hlk rfl _) (fun _ h => h) ((by have := fl_int E.2.1 σ k (fo ci) 0 j hj; rwa [Nat.zero_add] at this)) hd (kk H locs ls h1 h2 h3 h4)
theorem v_putT (pc : Nat) (C : Cx q E L cc nL own ret d) {idx ci n j k : Nat} {ty : FieldType} {v : Int32} (hl : Lp own idx ci j ty) (hk : Lc L k (ci, n)) (hc : ci < nCls) (hj : (fo ci)[j]? = some none) (hnr : narrow ty (.int v) = .int v) (hft : fits ty (.int v) = true) (hd : decode cc pc = .ok (.putfield idx, 3)) (kk : Vx q E L nL ret o (pc + 3) lv st (sg_up σ k j v)) : Vx q E L nL ret o pc lv (.int v :: .ref (E.2.1 k) :: st) σ := by
  intro H locs ls h1 h2 h3 h4
  obtain ⟨Cn, T, N, t0, hcl, hjN, hin, hlk, hty, hnm, hfin, htj⟩ := hl
  obtain ⟨q0, hL, hq⟩ := wo_get E σ hk.1
  rw [ent_obj E σ hk.2 hc] at hq
  have hset : (wo E L σ).set q0 (E.2.1 k, .inr (ci, (fl_vs E.2.1 σ k (fo ci) 0).set j (.int v))) = wo E L (sg_up σ k j v) := by
    have h9 := fl_set E.2.1 σ k v (fo ci) 0 j hj
    rw [Nat.zero_add] at h9
    rw [h9, ← ent_obj E (sg_up σ k j v) hk.2 hc]
    exact wo_set h3 hL (fun i hi => sg_up_off i hi)
  have hlen : j < (fl_vs E.2.1 σ k (fo ci) 0).length := by
    rw [fl_len]
    exact (List.getElem?_eq_some_iff.mp hj).1
  have hdt : parseFieldDescriptor (T j).2.2.1 = some ty := by rw [hty j hjN, htj]
  rcases hlk with hlk | ⟨host, hlk⟩
  · exact va_put C.1 C.2.1 (Ts := lw_tbl.filter wd_ok) C.ts (u_ws_ok hin) t0 hty hnm C.2.2.2.1 C.K h2 h3 h4 q0 hq hcl j hjN (C.tb hlk rfl _) (fun _ h => h) hfin hdt hnr hft hlen hd (fun H1 locs1 g2 g3 g4 => by rw [hset] at g2 g3; exact kk H1 locs1 ls h1 g2 g3 g4)
  · exact va_putN C.1 C.2.1 (Ts := lw_tbl.filter wd_ok) C.ts (u_ws_ok hin) t0 hty hnm C.2.2.2.1 C.K h2 h3 h4 q0 hq hcl j hjN (C.tb hlk rfl _) (fun _ h => h) hfin hdt hnr hft hlen hd (fun H1 locs1 g2 g3 g4 => by rw [hset] at g2 g3; exact kk H1 locs1 ls h1 g2 g3 g4)
theorem v_putI (pc : Nat) (C : Cx q E L cc nL own ret d) {idx ci n j k : Nat} {v : Int32} {K : Sg → Rs} (hl : Lp own idx ci j .int) (hk : Lc L k (ci, n)) (hc : ci < nCls) (hj : (fo ci)[j]? = some none) (hd : decode cc pc = .ok (.putfield idx, 3)) (hf : p_put σ k j v K = some o) (kk : ∀ τ : Sg, K τ = some o → Vx q E L nL ret o (pc + 3) lv st τ) : Vx q E L nL ret o pc lv (.int v :: .ref (E.2.1 k) :: st) σ := v_putT pc C hl hk hc hj rfl rfl hd (kk _ hf)
theorem v_putZ (pc : Nat) (C : Cx q E L cc nL own ret d) {idx ci n j k : Nat} {v : Int32} {K : Sg → Rs} (hl : Lp own idx ci j .boolean) (hk : Lc L k (ci, n)) (hc : ci < nCls) (hj : (fo ci)[j]? = some none) (hd : decode cc pc = .ok (.putfield idx, 3)) (hf : p_bo v (p_put σ k j v K) = some o) (kk : ∀ τ : Sg, K τ = some o → Vx q E L nL ret o (pc + 3) lv st τ) : Vx q E L nL ret o pc lv (.int v :: .ref (E.2.1 k) :: st) σ := v_putT pc C hl hk hc hj (p_bo_of hf).1 (p_bo_of hf).2.1 hd (kk _ (p_bo_of hf).2.2)
theorem v_iald (pc : Nat) (C : Cx q E L cc nL own ret d) {k n : Nat} {i : Int32} {K : Int32 → Rs} (hk : Lc L k (nCls + 0, n)) (hd : decode cc pc = .ok (.iaload, 1)) (hf : p_rd σ k n i K = some o) (kk : ∀ v : Int32, K v = some o → Vx q E L nL ret o (pc + 1) lv (.int v :: st) σ) : Vx q E L nL ret o pc lv (.int i :: .ref (E.2.1 k) :: st) σ := by
  intro H locs ls h1 h2 h3 h4
  obtain ⟨q0, -, hq⟩ := wo_get E σ hk.1
  rw [ent_arr E σ hk.2 (by decide)] at hq
  exact va_iald C.1 C.2.1 C.K h2 q0 0 hq rfl (p_rd_of hf).1 hd (kk _ (p_rd_of hf).2 H locs ls h1 h2 h3 h4)
theorem v_zald (pc : Nat) (C : Cx q E L cc nL own ret d) {k n : Nat} {i : Int32} {K : Int32 → Rs} (hk : Lc L k (nCls + 1, n)) (hd : decode cc pc = .ok (.baload, 1)) (hf : p_rd σ k n i K = some o) (kk : ∀ v : Int32, K v = some o → Vx q E L nL ret o (pc + 1) lv (.int v :: st) σ) : Vx q E L nL ret o pc lv (.int i :: .ref (E.2.1 k) :: st) σ := by
  intro H locs ls h1 h2 h3 h4
  obtain ⟨q0, -, hq⟩ := wo_get E σ hk.1
  rw [ent_arr E σ hk.2 (by decide)] at hq
  exact va_zald C.1 C.2.1 C.K h2 q0 1 hq rfl (p_rd_of hf).1 hd (kk _ (p_rd_of hf).2 H locs ls h1 h2 h3 h4)
theorem v_cald (pc : Nat) (C : Cx q E L cc nL own ret d) {k n : Nat} {i : Int32} {K : Int32 → Rs} (hk : Lc L k (nCls + 2, n)) (hd : decode cc pc = .ok (.caload, 1)) (hf : p_rd σ k n i K = some o) (kk : ∀ v : Int32, K v = some o → Vx q E L nL ret o (pc + 1) lv (.int v :: st) σ) : Vx q E L nL ret o pc lv (.int i :: .ref (E.2.1 k) :: st) σ := by
  intro H locs ls h1 h2 h3 h4
  obtain ⟨q0, -, hq⟩ := wo_get E σ hk.1
  rw [ent_arr E σ hk.2 (by decide)] at hq
  exact va_cald C.1 C.2.1 C.K h2 q0 2 hq rfl (p_rd_of hf).1 hd (kk _ (p_rd_of hf).2 H locs ls h1 h2 h3 h4)
theorem v_iast (pc : Nat) (C : Cx q E L cc nL own ret d) {k n : Nat} {i v : Int32} {K : Sg → Rs} (hk : Lc L k (nCls + 0, n)) (hd : decode cc pc = .ok (.iastore, 1)) (hf : p_wr σ k n i (v) K = some o) (kk : ∀ τ : Sg, K τ = some o → Vx q E L nL ret o (pc + 1) lv st τ) : Vx q E L nL ret o pc lv (.int v :: .int i :: .ref (E.2.1 k) :: st) σ := by
  intro H locs ls h1 h2 h3 h4
  obtain ⟨q0, hL, hq⟩ := wo_get E σ hk.1
  have hset : (wo E L σ).set q0 (E.2.1 k, .inl (E.2.2.1 (nCls + 0), n, .inl (upd (σ k) i.toNatClampNeg (v)))) = wo E L (sg_up σ k i.toNatClampNeg (v)) := by
    rw [← sg_up_row, ← ent_arr E (sg_up σ k i.toNatClampNeg (v)) hk.2 (by decide)]
    exact wo_set h3 hL (fun i hi => sg_up_off i hi)
  rw [ent_arr E σ hk.2 (by decide)] at hq
  exact va_iast C.1 C.2.1 C.K h2 h3 h4 q0 0 hq rfl (p_wr_of hf).1 hd (fun H1 locs1 g2 g3 g4 => by rw [hset] at g2 g3; exact kk _ (p_wr_of hf).2 H1 locs1 ls h1 g2 g3 g4)
theorem v_zast (pc : Nat) (C : Cx q E L cc nL own ret d) {k n : Nat} {i v : Int32} {K : Sg → Rs} (hk : Lc L k (nCls + 1, n)) (hd : decode cc pc = .ok (.bastore, 1)) (hf : p_wr σ k n i (nz v) K = some o) (kk : ∀ τ : Sg, K τ = some o → Vx q E L nL ret o (pc + 1) lv st τ) : Vx q E L nL ret o pc lv (.int v :: .int i :: .ref (E.2.1 k) :: st) σ := by
  intro H locs ls h1 h2 h3 h4
  obtain ⟨q0, hL, hq⟩ := wo_get E σ hk.1
  have hset : (wo E L σ).set q0 (E.2.1 k, .inl (E.2.2.1 (nCls + 1), n, .inl (upd (σ k) i.toNatClampNeg (nz v)))) = wo E L (sg_up σ k i.toNatClampNeg (nz v)) := by
    rw [← sg_up_row, ← ent_arr E (sg_up σ k i.toNatClampNeg (nz v)) hk.2 (by decide)]
    exact wo_set h3 hL (fun i hi => sg_up_off i hi)
  rw [ent_arr E σ hk.2 (by decide)] at hq
  exact va_zast C.1 C.2.1 C.K h2 h3 h4 q0 1 hq rfl (p_wr_of hf).1 hd (fun H1 locs1 g2 g3 g4 => by rw [hset] at g2 g3; exact kk _ (p_wr_of hf).2 H1 locs1 ls h1 g2 g3 g4)
theorem v_cast (pc : Nat) (C : Cx q E L cc nL own ret d) {k n : Nat} {i v : Int32} {K : Sg → Rs} (hk : Lc L k (nCls + 2, n)) (hd : decode cc pc = .ok (.castore, 1)) (hf : p_wr σ k n i (nc v) K = some o) (kk : ∀ τ : Sg, K τ = some o → Vx q E L nL ret o (pc + 1) lv st τ) : Vx q E L nL ret o pc lv (.int v :: .int i :: .ref (E.2.1 k) :: st) σ := by
  intro H locs ls h1 h2 h3 h4
  obtain ⟨q0, hL, hq⟩ := wo_get E σ hk.1
  have hset : (wo E L σ).set q0 (E.2.1 k, .inl (E.2.2.1 (nCls + 2), n, .inl (upd (σ k) i.toNatClampNeg (nc v)))) = wo E L (sg_up σ k i.toNatClampNeg (nc v)) := by
    rw [← sg_up_row, ← ent_arr E (sg_up σ k i.toNatClampNeg (nc v)) hk.2 (by decide)]
    exact wo_set h3 hL (fun i hi => sg_up_off i hi)
  rw [ent_arr E σ hk.2 (by decide)] at hq
  exact va_cast C.1 C.2.1 C.K h2 h3 h4 q0 2 hq rfl (p_wr_of hf).1 hd (fun H1 locs1 g2 g3 g4 => by rw [hset] at g2 g3; exact kk _ (p_wr_of hf).2 H1 locs1 ls h1 g2 g3 g4)
theorem v_alen (pc : Nat) (C : Cx q E L cc nL own ret d) {k n t : Nat} {v : Int32} (hk : Lc L k (t, n)) (ht : t = nCls ∨ t = nCls + 1 ∨ t = nCls + 2) (hv : Int32.ofNat n = v) (hd : decode cc pc = .ok (.arraylength, 1)) (kk : Vx q E L nL ret o (pc + 1) lv (.int v :: st) σ) : Vx q E L nL ret o pc lv (.ref (E.2.1 k) :: st) σ := by
  intro H locs ls h1 h2 h3 h4
  obtain ⟨q0, -, hq⟩ := wo_get E σ hk.1
  rcases ht with rfl | rfl | rfl
  · rw [ent_arr E σ hk.2 (by decide)] at hq
    exact va_alen C.1 C.2.1 C.K h2 q0 0 hq rfl hv hd (kk H locs ls h1 h2 h3 h4)
  · rw [ent_arr E σ hk.2 (by decide)] at hq
    exact va_alen C.1 C.2.1 C.K h2 q0 1 hq rfl hv hd (kk H locs ls h1 h2 h3 h4)
  · rw [ent_arr E σ hk.2 (by decide)] at hq
    exact va_alen C.1 C.2.1 C.K h2 q0 2 hq rfl hv hd (kk H locs ls h1 h2 h3 h4)
theorem v_ret (pc : Nat) (C : Cx q E L cc nL own ret d) (hr : ret = none) (hd : decode cc pc = .ok (.return_, 1)) {r : Int32} (hf : some (r, σ) = some o) : Vx q E L nL ret o pc lv [] σ := by
  intro H locs ls h1 h2 h3 h4
  cases hf
  subst hr
  exact W.vret C.1 C.2.1 C.2.2.2.2.1 (fun t ht hW => ⟨rfl, ⟨by rw [ht]; exact h2, h3, by rw [ht]; exact (C.2.2.2.2.2.2.2.warm hW).kept h4.2.1⟩, h4.F ht⟩) h4.2.2 hd (hlocks := C.2.2.2.2.2.1)
theorem v_iret (pc : Nat) (C : Cx q E L cc nL own ret d) (hr : ret = some .int) (hd : decode cc pc = .ok (.ireturn, 1)) {r : Int32} (hf : some (r, σ) = some o) : Vx q E L nL ret o pc lv [.int r] σ := by
  intro H locs ls h1 h2 h3 h4
  cases hf
  subst hr
  exact W.iret C.1 C.2.1 C.2.2.2.2.1 (fun t ht hW => ⟨rfl, ⟨by rw [ht]; exact h2, h3, by rw [ht]; exact (C.2.2.2.2.2.2.2.warm hW).kept h4.2.1⟩, h4.F ht⟩) h4.2.2 hd (hlocks := C.2.2.2.2.2.1)
theorem v_zretN (pc : Nat) (C : Cx q E L cc nL own ret d) (hr : ret = some .boolean) (hd : decode cc pc = .ok (.ireturn, 1)) {r : Int32} (hn : narrow .boolean (.int r) = .int r) (hf : some (r, σ) = some o) : Vx q E L nL ret o pc lv [.int r] σ := by
  intro H locs ls h1 h2 h3 h4
  cases hf
  subst hr
  exact W.zret C.1 C.2.1 C.2.2.2.2.1 hn (fun t ht hW => ⟨rfl, ⟨by rw [ht]; exact h2, h3, by rw [ht]; exact (C.2.2.2.2.2.2.2.warm hW).kept h4.2.1⟩, h4.F ht⟩) h4.2.2 hd (hlocks := C.2.2.2.2.2.1)
theorem v_zret (pc : Nat) (C : Cx q E L cc nL own ret d) (hr : ret = some .boolean) (hd : decode cc pc = .ok (.ireturn, 1)) {r : Int32} (hf : p_bo r (some (r, σ)) = some o) : Vx q E L nL ret o pc lv [.int r] σ := v_zretN pc C hr hd (p_bo_of hf).1 (p_bo_of hf).2.2
/-- the method link idx of the class own is y -/
def Lm (own : String) (idx : Nat) (y : MethodName) : Prop := Cond.methodLink own idx y ∈ lw_tbl ∨ ∃ host, Cond.methodLinkNest own idx y host ∈ lw_tbl
/-- y is a method of instances of the class ci, with n parameters -/
def Ly (y : MethodName) (ci : Nat) (cb : ByteArray) (maxL : Nat) (rt : Option FieldType) (n : Nat) : Prop := (∃ (T : u_T) (N : Nat), vwCl[ci]? = some (y.cls, T, N)) ∧ Cond.code y cb maxL rt ∈ lw_tbl ∧ Cond.instanceMethod y ∈ lw_tbl ∧ Cond.selects y.cls y y ∈ lw_tbl ∧ Cond.initialized y.cls ∈ lw_tbl ∧ y.cls ≠ "java/lang/invoke/MethodHandle" ∧ y.cls ≠ "java/lang/invoke/VarHandle" ∧ (parseMethodDescriptor y.desc).map (fun d => d.parameters.length) = some n
/-- y is a static method, with n parameters -/
def Lz (y : MethodName) (cb : ByteArray) (maxL : Nat) (rt : Option FieldType) (n : Nat) : Prop := Cond.code y cb maxL rt ∈ lw_tbl ∧ Cond.static y ∈ lw_tbl ∧ Cond.initialized y.cls ∈ lw_tbl ∧ y.cls ≠ "java/lang/invoke/MethodHandle" ∧ y.cls ≠ "java/lang/invoke/VarHandle" ∧ (parseMethodDescriptor y.desc).map (fun d => d.parameters.length) = some n
def rvl (rt : Option FieldType) (r : Int32) : List Value := (rv rt r).toList
theorem vr_go {rest : List Value} {rt : Option FieldType} {o1 : Int32 × Sg} {pc : Nat} {stk : List Value} {a : Array Value} (C : Cx q E L cc nL own ret d) {H : Heap} {locs : List Loc} {ls : Array Slot} (h1 : lv_has ls nL lv) (h4 : va_S (inL E L) (mS q).heap H locs)
    (hr : va_Run (mP q) (mL q) (mE q) (mR q) (mS q) (mM q) (mA q) (mB q) (mH q) (mC q) H locs 0 0 0 0 (F0 (mM q) pc ls stk) rest (Qo E L rt o1 a) (inL E L)) (kk : Vx q E L nL ret o (pc + 3) lv (rvl rt o1.1 ++ rest) o1.2) :
    W (mP q) (mL q) (mE q) (mR q) (mS q) (mM q) (mA q) (mB q) (mH q) (mC q) H locs 0 0 (MQ (mB q) (Qo E L ret o) (mA q) (mS q) 0 0 (inL E L)) (F0 (mM q) pc ls stk) := by
  intro T hT X
  obtain ⟨v, st₀, t, T', L', h0, X', hL, e1, e2, ⟨hv, ⟨w1, w2, -⟩, hz, hk⟩, stp⟩ := hr T hT X
  cases hv
  rw [h0] at hz hk
  obtain ⟨t2, a1, b1⟩ := kk T'.heap (locs ++ L') ls h1 (by rw [e1]; exact w1) w2
    ⟨Nat.le_trans h4.1 (by rw [e1]; exact hz), fun x g1 g2 => by rw [e1, hk x (Nat.lt_of_lt_of_le g1 h4.1) g2]; exact h4.2.1 x g1 g2, fun x hx => by
      rcases List.mem_append.mp hx with h | h
      · exact h4.2.2 x h
      · exact hL x h⟩ T' rfl X'
  exact ⟨t2, stp t2 a1, b1⟩
theorem good_code {y : MethodName} {cb : ByteArray} {maxL : Nat} {rt : Option FieldType} (h : Cond.code y cb maxL rt ∈ lw_tbl) : GoodIn (lw_tbl.filter wd_ok) [Cond.code y cb maxL rt] := fun w hw => by
  rw [List.mem_singleton.mp hw]
  exact ⟨List.mem_filter.mpr ⟨h, rfl⟩, Or.inl rfl⟩
theorem World.blind {vs : List Value} : FrameBlind (va_Pc vs (World E L σ)) := fun a U g mk h => ⟨h.1, h.2.same rfl rfl⟩
theorem Cx.enter (C : Cx q E L cc nL own ret d) {H : Heap} {locs : List Loc} (h2 : va_P E.1 vwCl (wo E L σ) H) (h3 : va_D (inL E L) (wo E L σ)) (h4 : va_S (inL E L) (mS q).heap H locs) (vs : List Value) : ∀ U : State, U.heap = H → (mS q).WarmedH U.vm → va_Pc vs (World E L σ) vs.toArray U := fun U hU hW => ⟨rfl, by rw [hU]; exact h2, h3, by rw [hU]; exact (C.2.2.2.2.2.2.2.warm hW).kept h4.2.1⟩
theorem v_callV (pc : Nat) (C : Cx q E L cc nL own ret d) {idx : Nat} {y : MethodName} {ci n k x maxL d' : Nat} {cb : ByteArray} {rt : Option FieldType} {f : Rs} {K : Int32 → Sg → Rs} {stk : List Value} (As : List Value) (hm : Lm own idx y) (hy : Ly y ci cb maxL rt n) (hk : Lc L k (ci, x)) (hc : ci < nCls) (hd : decode cc pc = .ok (.invokevirtual idx, 3)) (hn : As.length = n) (hr : d' + 1 ≤ d ∧ maxL ≤ 40) (hs : stk = As.reverse ++ .ref (E.2.1 k) :: st) (hst : (st.map fun v => v.category).sum ≤ 8)
    (hM : ∀ o1 : Int32 × Sg, f = some o1 → Mi (mL q) y cb maxL rt d' E L (.ref (E.2.1 k) :: As) σ o1) (hf : p_call f K = some o) (kk : ∀ (r : Int32) (τ : Sg), K r τ = some o → Vx q E L nL ret o (pc + 3) lv (rvl rt r ++ st) τ) : Vx q E L nL ret o pc lv stk σ := by
  obtain ⟨r, τ, e1, e2⟩ := p_call_of hf
  obtain ⟨⟨T, N, hcl⟩, w1, w2, w3, w4, n1, n2, n3⟩ := hy
  intro H locs ls h1 h2 h3 h4
  obtain ⟨q0, -, hq⟩ := wo_get E σ hk.1
  rw [ent_obj E σ hk.2 hc] at hq
  have hR : (rmd d').frames + 1 ≤ (mR q).frames ∧ 8 + (maxL + 11) + (rmd d').locals ≤ (mR q).locals := by
    rw [C.2.2.2.2.2.2.1]
    show d' + 1 ≤ d ∧ 8 + (maxL + 11) + 60 * d' ≤ 60 * d
    omega
  have hg : Cond.code y cb maxL rt ∈ lw_tbl.filter wd_ok := List.mem_filter.mpr ⟨w1, rfl⟩
  have hp : PreV (mS q) H y.cls (E.2.1 k) (va_Pc (.ref (E.2.1 k) :: As) (World E L σ)) As := ⟨World.blind, va_recv C.K h2 hcl hq, C.enter h2 h3 h4 _⟩
  rcases hm with hm | ⟨host, hm⟩
  · exact vr_go C h1 h4 (va_runV (As := As) (rest := st) (nL := nL) (n := n) ⟨C.1, C.2.1, C.2.2.1, C.2.2.2.1, C.ts⟩ (hM (r, τ) e1) ⟨callB_of (Ts := lw_tbl.filter wd_ok) n C.ts (good_code w1) rfl rfl rfl (C.tb w4 rfl _) (C.tb hm rfl _) ⟨n1, n2, n3⟩ hR, C.tb w2 rfl _, C.tb w3 rfl _⟩ hp rfl hn h1.1 hs (lv_room hst) hd ⟨Nat.zero_le _, Nat.zero_le _⟩) (kk r τ e2)
  · exact vr_go C h1 h4 (va_runVN (As := As) (rest := st) (nL := nL) (n := n) ⟨C.1, C.2.1, C.2.2.1, C.2.2.2.1, C.ts⟩ (hM (r, τ) e1) ⟨va_cnB (Ts := lw_tbl.filter wd_ok) n C.ts (good_code w1) rfl rfl rfl (va_Nw.of rfl (C.tb hm rfl (mA q))) (C.tb w4 rfl _) ⟨n1, n2, n3⟩ hR, C.tb w2 rfl _, C.tb w3 rfl _⟩ hp rfl hn h1.1 hs (lv_room hst) hd ⟨Nat.zero_le _, Nat.zero_le _⟩) (kk r τ e2)
theorem v_callS (pc : Nat) (C : Cx q E L cc nL own ret d) {idx : Nat} {y : MethodName} {n maxL d' : Nat} {cb : ByteArray} {rt : Option FieldType} {f : Rs} {K : Int32 → Sg → Rs} {stk : List Value} (As : List Value) (hm : Lm own idx y) (hy : Lz y cb maxL rt n) (hd : decode cc pc = .ok (.invokestatic idx, 3)) (hn : As.length = n) (hr : d' + 1 ≤ d ∧ maxL ≤ 40) (hs : stk = As.reverse ++ st) (hst : (st.map fun v => v.category).sum ≤ 8)
    (hM : ∀ o1 : Int32 × Sg, f = some o1 → Mi (mL q) y cb maxL rt d' E L As σ o1) (hf : p_call f K = some o) (kk : ∀ (r : Int32) (τ : Sg), K r τ = some o → Vx q E L nL ret o (pc + 3) lv (rvl rt r ++ st) τ) : Vx q E L nL ret o pc lv stk σ := by
  obtain ⟨r, τ, e1, e2⟩ := p_call_of hf
  obtain ⟨w1, w2, w4, n1, n2, n3⟩ := hy
  intro H locs ls h1 h2 h3 h4
  have hR : (rmd d').frames + 1 ≤ (mR q).frames ∧ 8 + (maxL + 11) + (rmd d').locals ≤ (mR q).locals := by
    rw [C.2.2.2.2.2.2.1]
    show d' + 1 ≤ d ∧ 8 + (maxL + 11) + 60 * d' ≤ 60 * d
    omega
  have hp : PreS (mS q) H (va_Pc As (World E L σ)) As := ⟨World.blind, C.enter h2 h3 h4 _⟩
  rcases hm with hm | ⟨host, hm⟩
  · exact vr_go C h1 h4 (va_runS (As := As) (rest := st) (nL := nL) (n := n) ⟨C.1, C.2.1, C.2.2.1, C.2.2.2.1, C.ts⟩ (hM (r, τ) e1) ⟨callB_of (Ts := lw_tbl.filter wd_ok) n C.ts (good_code w1) rfl rfl rfl (C.tb w4 rfl _) (C.tb hm rfl _) ⟨n1, n2, n3⟩ hR, C.tb w2 rfl _⟩ hp rfl hn h1.1 hs (lv_room hst) hd ⟨Nat.zero_le _, Nat.zero_le _⟩) (kk r τ e2)
  · exact vr_go C h1 h4 (va_runSN (As := As) (rest := st) (nL := nL) (n := n) ⟨C.1, C.2.1, C.2.2.1, C.2.2.2.1, C.ts⟩ (hM (r, τ) e1) ⟨va_cnB (Ts := lw_tbl.filter wd_ok) n C.ts (good_code w1) rfl rfl rfl (va_Nw.of rfl (C.tb hm rfl (mA q))) (C.tb w4 rfl _) ⟨n1, n2, n3⟩ hR, C.tb w2 rfl _, trivial⟩ hp rfl hn h1.1 hs (lv_room hst) hd ⟨Nat.zero_le _, Nat.zero_le _⟩) (kk r τ e2)
end VR
