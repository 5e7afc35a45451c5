/-! more rows of Vx: Math, System.arraycopy; membership of words -/
theorem tbi (i : Nat) {w : Cond} (h : tables_1[i]? = some w) : w ∈ lw_tbl := List.mem_append_right _ (List.mem_of_getElem? h)
theorem tbp (i : Nat) {w : Cond} (h : (k2_sels lw_privs)[i]? = some w) : w ∈ lw_tbl := List.mem_append_left _ (List.mem_of_getElem? h)
def jmax (x y : Int32) : Int32 := if x < y then y else x
def jmin (x y : Int32) : Int32 := if y < x then y else x
def jabs (x : Int32) : Int32 := if 0 ≤ x then x else 0 - x
def sg_row (σ : Sg) (k : Nat) (f : Nat → Int32) : Sg := fun a => if a = k then f else σ a
def p_cpy (σ : Sg) (k0 n0 k1 n1 : Nat) (sp dp n : Int32) (K : Sg → Rs) : Rs := if (0 ≤ sp ∧ 0 ≤ dp ∧ 0 ≤ n) ∧ sp.toNatClampNeg + n.toNatClampNeg ≤ n0 ∧ dp.toNatClampNeg + n.toNatClampNeg ≤ n1 then K (sg_row σ k1 (va_cpy (σ k0) (σ k1) sp.toNatClampNeg dp.toNatClampNeg n.toNatClampNeg)) else none
section VR2
variable {q : Mc} {E : En} {L : List Nat} {cc : ByteArray} {nL : Nat} {own : String} {ret : Option FieldType} {d : Nat} {o : Int32 × Sg} {lv : List (Nat × Value)} {st : List Value} {σ : Sg}
def Lmath (y : MethodName) (cb : ByteArray) (n : Nat) : Prop := Cond.static y ∈ lw_tbl ∧ Cond.initialized "java/lang/Math" ∈ lw_tbl ∧ Cond.code y cb n (some .int) ∈ lw_tbl
theorem Cx.rm (C : Cx q E L cc nL own ret d) (hd : 1 ≤ d) {w : Nat} (hw : w ≤ 60) : 1 ≤ (mR q).frames ∧ w ≤ (mR q).locals := by
  rw [C.2.2.2.2.2.2.1]
  show 1 ≤ d ∧ w ≤ 60 * d
  omega
theorem v_mmax (pc : Nat) (C : Cx q E L cc nL own ret d) {idx : Nat} {x y : Int32} (hl : Cond.methodLink own idx Lib.Math.max.name ∈ lw_tbl) (hw : Lmath Lib.Math.max.name Lib.Math.max.code 2) (hr : 1 ≤ d) (hst : (st.map fun v => v.category).sum ≤ 8) (hd : decode cc pc = .ok (.invokestatic idx, 3)) (kk : Vx q E L nL ret o (pc + 3) lv (.int (jmax x y) :: st) σ) : Vx q E L nL ret o pc lv (.int y :: .int x :: st) σ := fun H locs ls h1 h2 h3 h4 =>
  va_mmax C.1 C.2.1 (C.2.2.1.trans h1.1.symm) C.2.2.2.1 (C.tb hl rfl _) (C.tb hw.1 rfl _) (C.tb hw.2.1 rfl _) (C.tb hw.2.2 rfl _) (C.rm hr (Nat.zero_le 60)).1 (Nat.le_trans (by omega) (C.rm hr (w := 21) (by omega)).2) (Nat.zero_le _) (Nat.zero_le _) hd (kk H locs ls h1 h2 h3 h4)
theorem v_mmin (pc : Nat) (C : Cx q E L cc nL own ret d) {idx : Nat} {x y : Int32} (hl : Cond.methodLink own idx Lib.Math.min.name ∈ lw_tbl) (hw : Lmath Lib.Math.min.name Lib.Math.min.code 2) (hr : 1 ≤ d) (hst : (st.map fun v => v.category).sum ≤ 8) (hd : decode cc pc = .ok (.invokestatic idx, 3)) (kk : Vx q E L nL ret o (pc + 3) lv (.int (jmin x y) :: st) σ) : Vx q E L nL ret o pc lv (.int y :: .int x :: st) σ := fun H locs ls h1 h2 h3 h4 =>
  va_mmin C.1 C.2.1 (C.2.2.1.trans h1.1.symm) C.2.2.2.1 (C.tb hl rfl _) (C.tb hw.1 rfl _) (C.tb hw.2.1 rfl _) (C.tb hw.2.2 rfl _) (C.rm hr (Nat.zero_le 60)).1 (Nat.le_trans (by omega) (C.rm hr (w := 21) (by omega)).2) (Nat.zero_le _) (Nat.zero_le _) hd (kk H locs ls h1 h2 h3 h4)
theorem v_mabs (pc : Nat) (C : Cx q E L cc nL own ret d) {idx : Nat} {x : Int32} (hl : Cond.methodLink own idx Lib.Math.abs.name ∈ lw_tbl) (hw : Lmath Lib.Math.abs.name Lib.Math.abs.code 1) (hr : 1 ≤ d) (hst : (st.map fun v => v.category).sum ≤ 8) (hd : decode cc pc = .ok (.invokestatic idx, 3)) (kk : Vx q E L nL ret o (pc + 3) lv (.int (jabs x) :: st) σ) : Vx q E L nL ret o pc lv (.int x :: st) σ := fun H locs ls h1 h2 h3 h4 =>
  va_mabs C.1 C.2.1 (C.2.2.1.trans h1.1.symm) C.2.2.2.1 (C.tb hl rfl _) (C.tb hw.1 rfl _) (C.tb hw.2.1 rfl _) (C.tb hw.2.2 rfl _) (C.rm hr (Nat.zero_le 60)).1 (Nat.le_trans (by omega) (C.rm hr (w := 21) (by omega)).2) (Nat.zero_le _) (Nat.zero_le _) hd (kk H locs ls h1 h2 h3 h4)
def Lcp : Prop := Cond.native arraycopyName ∈ lw_tbl ∧ Cond.static arraycopyName ∈ lw_tbl ∧ Cond.initialized "java/lang/System" ∈ lw_tbl
theorem v_copyi (pc : Nat) (C : Cx q E L cc nL own ret d) {idx k0 n0 k1 n1 : Nat} {sp dp n : Int32} {K : Sg → Rs} (hl : Cond.methodLink own idx arraycopyName ∈ lw_tbl) (hw : Lcp) (hr : 1 ≤ d) (hst : (st.map fun v => v.category).sum ≤ 8) (hk0 : Lc L k0 (nCls, n0)) (hk1 : Lc L k1 (nCls, n1)) (hd : decode cc pc = .ok (.invokestatic idx, 3)) (hf : p_cpy σ k0 n0 k1 n1 sp dp n K = some o) (kk : ∀ τ : Sg, K τ = some o → Vx q E L nL ret o (pc + 3) lv st τ) : Vx q E L nL ret o pc lv (.int n :: .int dp :: .ref (E.2.1 k1) :: .int sp :: .ref (E.2.1 k0) :: st) σ := by
  intro H locs ls h1 h2 h3 h4
  unfold p_cpy at hf
  split at hf
  · next hc =>
    obtain ⟨⟨g1, g2, g3⟩, g4, g5⟩ := hc
    obtain ⟨q0, -, hq0⟩ := wo_get E σ hk0.1
    obtain ⟨q1, hL1, hq1⟩ := wo_get E σ hk1.1
    have hset : (wo E L σ).set q1 (E.2.1 k1, .inl (E.2.2.1 nCls, n1, .inl (va_cpy (σ k0) (σ k1) sp.toNatClampNeg dp.toNatClampNeg n.toNatClampNeg))) = wo E L (sg_row σ k1 (va_cpy (σ k0) (σ k1) sp.toNatClampNeg dp.toNatClampNeg n.toNatClampNeg)) := by
      have e : sg_row σ k1 (va_cpy (σ k0) (σ k1) sp.toNatClampNeg dp.toNatClampNeg n.toNatClampNeg) k1 = va_cpy (σ k0) (σ k1) sp.toNatClampNeg dp.toNatClampNeg n.toNatClampNeg := if_pos rfl
      have e2 := ent_arr E (sg_row σ k1 (va_cpy (σ k0) (σ k1) sp.toNatClampNeg dp.toNatClampNeg n.toNatClampNeg)) hk1.2 (by decide)
      rw [e] at e2
      rw [← e2]
      exact wo_set h3 hL1 (fun i hi => if_neg hi)
    rw [ent_arr E σ hk0.2 (by decide)] at hq0
    rw [ent_arr E σ hk1.2 (by decide)] at hq1
    exact va_copyi C.1 C.2.1 (C.2.2.1.trans h1.1.symm) C.2.2.2.1 (C.tb hl rfl _) (C.tb hw.1 rfl _) (C.tb hw.2.1 rfl _) (C.tb hw.2.2 rfl _) C.K h2 h3 h4 q0 q1 0 0 hq0 hq1 rfl rfl rfl (Int32.not_lt.mpr g1) (Int32.not_lt.mpr g2) (Int32.not_lt.mpr g3) g4 g5 (fun i _ => rfl) (C.rm hr (Nat.zero_le 60)).1 (Nat.le_trans (Nat.add_le_add_right hst _) (C.rm hr (w := 8 + (nativeFrameWords "java/lang/System" "arraycopy" 5 + 11)) (by decide)).2) hd (fun H1 locs1 w2 w3 w4 => by rw [hset] at w2 w3; exact kk _ hf H1 locs1 ls h1 w2 w3 w4)
  · cases hf
end VR2
