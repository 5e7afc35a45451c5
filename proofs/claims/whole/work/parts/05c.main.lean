/-! the two objects of the law: their constructors end in the world of their cell numbers -/
theorem fl_shift {ad as : Nat → Nat} {σ ρ : Sg} {k j : Nat} (h2 : σ (k + j) = ρ j) : ∀ (fs : List (Option Nat)) (i : Nat), (∀ d, some d ∈ fs → ad (k + j + d) = as (j + d)) → fl_vs as ρ j fs i = fl_vs ad σ (k + j) fs i
  | [], _, _ => rfl
  | some d :: r, i, h => by
    simp only [fl_vs]
    rw [h d List.mem_cons_self, fl_shift h2 r (i + 1) (fun d hd => h d (List.mem_cons_of_mem _ hd))]
  | none :: r, i, h => by
    simp only [fl_vs]
    rw [h2, fl_shift h2 r (i + 1) (fun d hd => h d (List.mem_cons_of_mem _ hd))]
/-- the references of a shape stay inside of it -/
def shok (sh : List (Nat × Nat)) : Bool := (List.range sh.length).all (fun j => (fo (sh.getD j (99, 0)).1).all (fun d => match d with
  | some d => decide (j + d < sh.length)
  | none => true))
theorem wb_wo (E : En) {ad as : Nat → Nat} {σ ρ : Sg} (k : Nat) {sh : List (Nat × Nat)} (h1 : ∀ j, j < sh.length → ad (k + j) = as j) (h2 : ∀ j, j < sh.length → σ (k + j) = ρ j) (h3 : (List.range sh.length).all (fun j => decide (lay (k + j) = sh.getD j (99, 0))) = true) (h4 : shok sh = true) : wb E sh as ρ = wo (E.1, ad, E.2.2) ((List.range sh.length).map (fun j => k + j)) σ := by
  unfold wb wo
  rw [List.map_map]
  apply List.map_congr_left
  intro j hj
  have hl : j < sh.length := List.mem_range.mp hj
  have e3 : lay (k + j) = sh.getD j (99, 0) := of_decide_eq_true (List.all_eq_true.mp h3 j hj)
  have e4 := List.all_eq_true.mp h4 j hj
  show (as j, we E sh as ρ j) = (ad (k + j), ent (E.1, ad, E.2.2) σ (k + j))
  rw [h1 j hl]
  congr 1
  unfold we ent
  rw [e3, h2 j hl]
  rw [fl_shift (ad := ad) (as := as) (σ := σ) (k := k) (h2 j hl) (fo (sh.getD j (99, 0)).1) 0 (fun d hd => by
    have := List.all_eq_true.mp e4 (some d) hd
    simp only [decide_eq_true_eq] at this
    rw [Nat.add_assoc]
    exact h1 (j + d) this)]
theorem wo_app (E : En) (L1 L2 : List Nat) (σ : Sg) : wo E (L1 ++ L2) σ = wo E L1 σ ++ wo E L2 σ := List.map_append
def Qw (E : En) (A : Nat → Prop) (Post : va_W → Prop) : Array Value → State → Outcome → State → Prop := fun _ st oc t => oc = .returned none ∧ (∃ ws : va_W, Post ws ∧ va_P E.1 vwCl ws t.heap ∧ va_D A ws) ∧ va_F A st t
def Niw (l : Launch) (y : MethodName) (cc : ByteArray) (maxL d mc ms : Nat) (E : En) (ci : Nat) (fs : List Value) (Post : Nat → va_W → Prop) : Prop :=
  ∀ (h0 sz : Nat), Met l y [.code y cc maxL none] (rmn d mc ms) (va_Pc [.ref h0] (Pn E ci fs h0 sz)) (Qw E (va_A [(h0, .inr (ci, fs))] sz) (Post h0)) mc ms (va_A [(h0, .inr (ci, fs))] sz)
theorem Niw.of {l : Launch} {y : MethodName} {cc : ByteArray} {maxL d mc ms : Nat} {E : En} {ci : Nat} {fs : List Value} {Post : Nat → va_W → Prop} (own : String) (hown : y.cls = own) (hin : y.name = "<init>") (hy : plainName y.cls = true) (hlen : 1 ≤ maxL)
    (body : ∀ (q : Mc) (h0 : Nat), mL q = l → Cn q E (va_A [(h0, .inr (ci, fs))] (mS q).heap.size) cc maxL own d mc ms → Nx q E (va_A [(h0, .inr (ci, fs))] (mS q).heap.size) maxL (MQ (mB q) (Qw E (va_A [(h0, .inr (ci, fs))] (mS q).heap.size) (Post h0)) (mA q) (mS q) mc ms (va_A [(h0, .inr (ci, fs))] (mS q).heap.size)) 0 [(0, .ref h0)] [] [(h0, .inr (ci, fs))] 0 0) : Niw l y cc maxL d mc ms E ci fs Post := by
  intro h0 sz
  refine Met.ofW (cc := cc) (maxL := maxL) (ret := none) hy rfl ?_
  intro p e s m args below meth c s₁ B hml hv
  obtain ⟨rfl, rfl, hP, hX⟩ := hv
  have hl := lv_entry [Value.ref h0] (n := maxL) (by have h9 : (lg_sl [Value.ref h0]).length = 1 := rfl; omega)
  rw [lg_entry_eq]
  exact body (p, l, e, (headSpec [Cond.code y cc maxL none] (rmn d mc ms)).room, s, m, [Value.ref h0].toArray, below, meth, c) h0 rfl ⟨B.exec, B.bytes, hml, by rw [← hown]; exact findClass_of_methodNamed B.named, B.returns, B.notSynchronized, rfl, by rw [← hin]; exact (name_of_methodNamed B.named B.method).1, fun x h => Or.inr h, hX⟩ s.heap [] _ hl hP (va_D1 (Or.inl ⟨0, _, rfl⟩)) va_S.rf
theorem n_retW {q : Mc} {E : En} {A : Nat → Prop} {cc : ByteArray} {nL : Nat} {own : String} {d mc ms : Nat} {lv : List (Nat × Value)} {ws : va_W} {c s : Nat} (pc : Nat) (C : Cn q E A cc nL own d mc ms) {Post : va_W → Prop} (hp : Post ws) (hcs : c ≤ mc ∧ s ≤ ms) (hd : decode cc pc = .ok (.return_, 1)) : Nx q E A nL (MQ (mB q) (Qw E A Post) (mA q) (mS q) mc ms A) pc lv [] ws c s := by
  intro H locs ls g1 g2 g3 g4
  refine W.widen (k := mc) (n := ms) hcs.1 hcs.2 ?_
  exact W.vret C.1 C.2.1 C.2.2.2.2.1 (fun t ht hW => ⟨rfl, ⟨ws, hp, by rw [ht]; exact g2, g3⟩, g4.F ht⟩) g4.2.2 hd (hlocks := C.2.2.2.2.2.1)
theorem lob_X10 : Cond.methodLink RX10 1 objectInit ∈ lw_tbl := tbi 25 (by decide +kernel)
theorem lw_X10_7 : Lw RX10 7 3 [.null, .null, .null] 3 := ⟨RX3, TX3, tyX3, rfl, inX3, tyX3_ok, tbi 28 (by decide +kernel), tbi 29 (by decide +kernel), tbi 2 (by decide +kernel), fun j hj => match j, hj with | 0, _ => rfl | 1, _ => rfl | 2, _ => rfl | n + 3, h => absurd h (by omega)⟩
theorem lmi_X10_9 : Lm RX10 9 yX3_init := Or.inr ⟨"AuntsPuzzle", tbi 30 (by decide +kernel)⟩
theorem lff_X10_10 : Lf RX10 10 10 0 (tyX10 0) := ⟨RX10, TX10, 12, tyX10, rfl, by decide, inX10, tbi 296 (by decide +kernel), tyX10_ok, nmX10, rfl, rfl, rfl⟩
theorem lff_X10_16 : Lf RX10 16 10 1 (tyX10 1) := ⟨RX10, TX10, 12, tyX10, rfl, by decide, inX10, tbi 297 (by decide +kernel), tyX10_ok, nmX10, rfl, rfl, rfl⟩
theorem lff_X10_19 : Lf RX10 19 10 2 (tyX10 2) := ⟨RX10, TX10, 12, tyX10, rfl, by decide, inX10, tbi 298 (by decide +kernel), tyX10_ok, nmX10, rfl, rfl, rfl⟩
theorem lw_X10_22 : Lw RX10 22 7 [.null, .int 0, .int 0, .int 0] 4 := ⟨RX7, TX7, tyX7, rfl, inX7, tyX7_ok, tbi 174 (by decide +kernel), tbi 175 (by decide +kernel), tbi 6 (by decide +kernel), fun j hj => match j, hj with | 0, _ => rfl | 1, _ => rfl | 2, _ => rfl | 3, _ => rfl | n + 4, h => absurd h (by omega)⟩
theorem lmi_X10_24 : Lm RX10 24 yX7_init := Or.inr ⟨"AuntsPuzzle", tbi 176 (by decide +kernel)⟩
theorem lc0_X7_init : Lc0 yX7_init cX7_init 1 := ⟨tbi 178 (by decide +kernel), tbi 177 (by decide +kernel), tbi 6 (by decide +kernel), rfl, by decide, by decide, by decide +kernel⟩
theorem lff_X10_25 : Lf RX10 25 10 3 (tyX10 3) := ⟨RX10, TX10, 12, tyX10, rfl, by decide, inX10, tbi 299 (by decide +kernel), tyX10_ok, nmX10, rfl, rfl, rfl⟩
theorem lw_X10_29 : Lw RX10 29 8 [.null, .int 0] 2 := ⟨RX8, TX8, tyX8, rfl, inX8, tyX8_ok, tbi 195 (by decide +kernel), tbi 196 (by decide +kernel), tbi 7 (by decide +kernel), fun j hj => match j, hj with | 0, _ => rfl | 1, _ => rfl | n + 2, h => absurd h (by omega)⟩
theorem lmi_X10_31 : Lm RX10 31 yX8_init := Or.inr ⟨"AuntsPuzzle", tbi 197 (by decide +kernel)⟩
theorem lc0_X8_init : Lc0 yX8_init cX8_init 1 := ⟨tbi 199 (by decide +kernel), tbi 198 (by decide +kernel), tbi 7 (by decide +kernel), rfl, by decide, by decide, by decide +kernel⟩
theorem lff_X10_32 : Lf RX10 32 10 4 (tyX10 4) := ⟨RX10, TX10, 12, tyX10, rfl, by decide, inX10, tbi 300 (by decide +kernel), tyX10_ok, nmX10, rfl, rfl, rfl⟩
theorem lw_X10_36 : Lw RX10 36 6 [.null, .null, .int 0, .int 0, .int 0] 5 := ⟨RX6, TX6, tyX6, rfl, inX6, tyX6_ok, tbi 209 (by decide +kernel), tbi 210 (by decide +kernel), tbi 8 (by decide +kernel), fun j hj => match j, hj with | 0, _ => rfl | 1, _ => rfl | 2, _ => rfl | 3, _ => rfl | 4, _ => rfl | n + 5, h => absurd h (by omega)⟩
theorem lmi_X10_38 : Lm RX10 38 yX6_init := Or.inr ⟨"AuntsPuzzle", tbi 211 (by decide +kernel)⟩
theorem lc0_X6_init : Lc0 yX6_init cX6_init 1 := ⟨tbi 213 (by decide +kernel), tbi 212 (by decide +kernel), tbi 8 (by decide +kernel), rfl, by decide, by decide, by decide +kernel⟩
theorem lff_X10_39 : Lf RX10 39 10 5 (tyX10 5) := ⟨RX10, TX10, 12, tyX10, rfl, by decide, inX10, tbi 301 (by decide +kernel), tyX10_ok, nmX10, rfl, rfl, rfl⟩
theorem lw_X10_43 : Lw RX10 43 9 [.null, .null, .null, .int 0, .int 0, .int 0] 6 := ⟨RX9, TX9, tyX9, rfl, inX9, tyX9_ok, tbi 237 (by decide +kernel), tbi 238 (by decide +kernel), tbi 9 (by decide +kernel), fun j hj => match j, hj with | 0, _ => rfl | 1, _ => rfl | 2, _ => rfl | 3, _ => rfl | 4, _ => rfl | 5, _ => rfl | n + 6, h => absurd h (by omega)⟩
theorem lmi_X10_45 : Lm RX10 45 yX9_init := Or.inr ⟨"AuntsPuzzle", tbi 239 (by decide +kernel)⟩
theorem lc0_X9_init : Lc0 yX9_init cX9_init 1 := ⟨tbi 241 (by decide +kernel), tbi 240 (by decide +kernel), tbi 9 (by decide +kernel), rfl, by decide, by decide, by decide +kernel⟩
theorem lff_X10_46 : Lf RX10 46 10 6 (tyX10 6) := ⟨RX10, TX10, 12, tyX10, rfl, by decide, inX10, tbi 302 (by decide +kernel), tyX10_ok, nmX10, rfl, rfl, rfl⟩
theorem lw_X10_50 : Lw RX10 50 5 [.null, .null, .null] 3 := ⟨RX5, TX5, tyX5, rfl, inX5, tyX5_ok, tbi 264 (by decide +kernel), tbi 265 (by decide +kernel), tbi 10 (by decide +kernel), fun j hj => match j, hj with | 0, _ => rfl | 1, _ => rfl | 2, _ => rfl | n + 3, h => absurd h (by omega)⟩
theorem lmi_X10_52 : Lm RX10 52 yX5_init := Or.inr ⟨"AuntsPuzzle", tbi 266 (by decide +kernel)⟩
theorem lc0_X5_init : Lc0 yX5_init cX5_init 1 := ⟨tbi 268 (by decide +kernel), tbi 267 (by decide +kernel), tbi 10 (by decide +kernel), rfl, by decide, by decide, by decide +kernel⟩
theorem lff_X10_53 : Lf RX10 53 10 7 (tyX10 7) := ⟨RX10, TX10, 12, tyX10, rfl, by decide, inX10, tbi 303 (by decide +kernel), tyX10_ok, nmX10, rfl, rfl, rfl⟩
theorem lw_X10_57 : Lw RX10 57 2 [.null, .int 0] 2 := ⟨RX2, TX2, tyX2, rfl, inX2, tyX2_ok, tbi 281 (by decide +kernel), tbi 282 (by decide +kernel), tbi 11 (by decide +kernel), fun j hj => match j, hj with | 0, _ => rfl | 1, _ => rfl | n + 2, h => absurd h (by omega)⟩
theorem lmi_X10_59 : Lm RX10 59 yX2_init := Or.inr ⟨"AuntsPuzzle", tbi 283 (by decide +kernel)⟩
theorem lc0_X2_init : Lc0 yX2_init cX2_init 1 := ⟨tbi 285 (by decide +kernel), tbi 284 (by decide +kernel), tbi 11 (by decide +kernel), rfl, by decide, by decide, by decide +kernel⟩
theorem lff_X10_60 : Lf RX10 60 10 8 (tyX10 8) := ⟨RX10, TX10, 12, tyX10, rfl, by decide, inX10, tbi 304 (by decide +kernel), tyX10_ok, nmX10, rfl, rfl, rfl⟩
theorem lff_X10_64 : Lf RX10 64 10 9 (tyX10 9) := ⟨RX10, TX10, 12, tyX10, rfl, by decide, inX10, tbi 305 (by decide +kernel), tyX10_ok, nmX10, rfl, rfl, rfl⟩
def rho_AuntsPuzzle : Sg := fun a => if a < 1 then (fun _ => 0) else if a < 17 then rho_Game (a - 1) else if a < 33 then rho_Game (a - 17) else if a < 49 then rho_Game (a - 33) else if a < 51 then z0 (a - 49) else if a < 53 then z0 (a - 51) else if a < 66 then rho_Search (a - 53) else if a < 85 then rho_Work (a - 66) else if a < 89 then z0 (a - 85) else if a < 96 then rho_Evening (a - 89) else (fun _ => 0)
def PostX (E : En) (h0 : Nat) (ws : va_W) : Prop := ∃ ad : Nat → Nat, ad 0 = h0 ∧ ws = wo (E.1, ad, E.2.2) (List.range 97) rho_AuntsPuzzle
set_option maxRecDepth 100000 in
set_option maxHeartbeats 4000000 in
theorem i_X10_init {l : Launch} (E : En) : Niw l yX10_init cX10_init 1 5 96 1582 E 10 [.null, .null, .null, .null, .null, .null, .null, .null, .null, .null, .int 0, .int 0] (PostX E) := by
  refine Niw.of RX10 rfl rfl (by decide) (by decide) (fun q h0 hq C => ?_)
  subst hq
  refine n_aload0 0 C dX10_init_0 rfl ?_
  refine n_obj 1 C lob_X10 lo (by decide) (Nat.le_of_ble_eq_true rfl) dX10_init_1 ?_
  refine n_aload0 4 C dX10_init_4 rfl ?_
  refine n_new 5 C lw_X10_7 (by decide) dX10_init_5 (fun q1 => ?_)
  refine Nx.weq (ws' := (h0, (.inr (10, [.null, .null, .null, .null, .null, .null, .null, .null, .null, .null, .int 0, .int 0]) : va_E)) :: ([(q1, (.inr (3, [.null, .null, .null]) : va_E))])) (c' := 1) (s' := 3) rfl rfl rfl ?_
  refine n_dup 8 C dX10_init_8 ?_
  refine n_callI (wr := (h0, (.inr (10, [.null, .null, .null, .null, .null, .null, .null, .null, .null, .null, .int 0, .int 0]) : va_E)) :: ([])) 9 C lmi_X10_9 lc0_X3_init (i_X3_init (l := mL q) E) rfl (by decide) (Nat.le_of_ble_eq_true rfl) dX10_init_9 (fun a2 ra2 ha hra2 => ?_)
  subst ha
  refine Nx.weq (ws' := (h0, (.inr (10, [.null, .null, .null, .null, .null, .null, .null, .null, .null, .null, .int 0, .int 0]) : va_E)) :: (wb E sh_Game a2 ra2)) (c' := 16) (s' := 277) rfl rfl rfl ?_
  refine n_putF (wr := wb E sh_Game a2 ra2) (fs' := [.ref (a2 0), .null, .null, .null, .null, .null, .null, .null, .null, .null, .int 0, .int 0]) 12 C lff_X10_10 rfl rfl rfl (Nat.le_of_ble_eq_true rfl) rfl dX10_init_12 ?_
  refine n_aload0 15 C dX10_init_15 rfl ?_
  refine n_new 16 C lw_X10_7 (by decide) dX10_init_16 (fun q3 => ?_)
  refine Nx.weq (ws' := (h0, (.inr (10, [.ref (a2 0), .null, .null, .null, .null, .null, .null, .null, .null, .null, .int 0, .int 0]) : va_E)) :: (wb E sh_Game a2 ra2 ++ [(q3, (.inr (3, [.null, .null, .null]) : va_E))])) (c' := 17) (s' := 280) rfl rfl rfl ?_
  refine n_dup 19 C dX10_init_19 ?_
  refine n_callI (wr := (h0, (.inr (10, [.ref (a2 0), .null, .null, .null, .null, .null, .null, .null, .null, .null, .int 0, .int 0]) : va_E)) :: (wb E sh_Game a2 ra2)) 20 C lmi_X10_9 lc0_X3_init (i_X3_init (l := mL q) E) rfl (by decide) (Nat.le_of_ble_eq_true rfl) dX10_init_20 (fun a4 ra4 ha hra4 => ?_)
  subst ha
  refine Nx.weq (ws' := (h0, (.inr (10, [.ref (a2 0), .null, .null, .null, .null, .null, .null, .null, .null, .null, .int 0, .int 0]) : va_E)) :: (wb E sh_Game a2 ra2 ++ wb E sh_Game a4 ra4)) (c' := 32) (s' := 554) rfl rfl rfl ?_
  refine n_putF (wr := wb E sh_Game a2 ra2 ++ wb E sh_Game a4 ra4) (fs' := [.ref (a2 0), .ref (a4 0), .null, .null, .null, .null, .null, .null, .null, .null, .int 0, .int 0]) 23 C lff_X10_16 rfl rfl rfl (Nat.le_of_ble_eq_true rfl) rfl dX10_init_23 ?_
  refine n_aload0 26 C dX10_init_26 rfl ?_
  refine n_new 27 C lw_X10_7 (by decide) dX10_init_27 (fun q5 => ?_)
  refine Nx.weq (ws' := (h0, (.inr (10, [.ref (a2 0), .ref (a4 0), .null, .null, .null, .null, .null, .null, .null, .null, .int 0, .int 0]) : va_E)) :: (wb E sh_Game a2 ra2 ++ wb E sh_Game a4 ra4 ++ [(q5, (.inr (3, [.null, .null, .null]) : va_E))])) (c' := 33) (s' := 557) rfl rfl rfl ?_
  refine n_dup 30 C dX10_init_30 ?_
  refine n_callI (wr := (h0, (.inr (10, [.ref (a2 0), .ref (a4 0), .null, .null, .null, .null, .null, .null, .null, .null, .int 0, .int 0]) : va_E)) :: (wb E sh_Game a2 ra2 ++ wb E sh_Game a4 ra4)) 31 C lmi_X10_9 lc0_X3_init (i_X3_init (l := mL q) E) rfl (by decide) (Nat.le_of_ble_eq_true rfl) dX10_init_31 (fun a6 ra6 ha hra6 => ?_)
  subst ha
  refine Nx.weq (ws' := (h0, (.inr (10, [.ref (a2 0), .ref (a4 0), .null, .null, .null, .null, .null, .null, .null, .null, .int 0, .int 0]) : va_E)) :: (wb E sh_Game a2 ra2 ++ wb E sh_Game a4 ra4 ++ wb E sh_Game a6 ra6)) (c' := 48) (s' := 831) rfl rfl rfl ?_
  refine n_putF (wr := wb E sh_Game a2 ra2 ++ wb E sh_Game a4 ra4 ++ wb E sh_Game a6 ra6) (fs' := [.ref (a2 0), .ref (a4 0), .ref (a6 0), .null, .null, .null, .null, .null, .null, .null, .int 0, .int 0]) 34 C lff_X10_19 rfl rfl rfl (Nat.le_of_ble_eq_true rfl) rfl dX10_init_34 ?_
  refine n_aload0 37 C dX10_init_37 rfl ?_
  refine n_new 38 C lw_X10_22 (by decide) dX10_init_38 (fun q7 => ?_)
  refine Nx.weq (ws' := (h0, (.inr (10, [.ref (a2 0), .ref (a4 0), .ref (a6 0), .null, .null, .null, .null, .null, .null, .null, .int 0, .int 0]) : va_E)) :: (wb E sh_Game a2 ra2 ++ wb E sh_Game a4 ra4 ++ wb E sh_Game a6 ra6 ++ [(q7, (.inr (7, [.null, .int 0, .int 0, .int 0]) : va_E))])) (c' := 49) (s' := 835) rfl rfl rfl ?_
  refine n_dup 41 C dX10_init_41 ?_
  refine n_callI (wr := (h0, (.inr (10, [.ref (a2 0), .ref (a4 0), .ref (a6 0), .null, .null, .null, .null, .null, .null, .null, .int 0, .int 0]) : va_E)) :: (wb E sh_Game a2 ra2 ++ wb E sh_Game a4 ra4 ++ wb E sh_Game a6 ra6)) 42 C lmi_X10_24 lc0_X7_init (i_X7_init (l := mL q) E) rfl (by decide) (Nat.le_of_ble_eq_true rfl) dX10_init_42 (fun a8 ra8 ha hra8 => ?_)
  subst ha
  refine Nx.weq (ws' := (h0, (.inr (10, [.ref (a2 0), .ref (a4 0), .ref (a6 0), .null, .null, .null, .null, .null, .null, .null, .int 0, .int 0]) : va_E)) :: (wb E sh_Game a2 ra2 ++ wb E sh_Game a4 ra4 ++ wb E sh_Game a6 ra6 ++ wb E sh_Tape a8 ra8)) (c' := 50) (s' := 899) rfl rfl rfl ?_
  refine n_putF (wr := wb E sh_Game a2 ra2 ++ wb E sh_Game a4 ra4 ++ wb E sh_Game a6 ra6 ++ wb E sh_Tape a8 ra8) (fs' := [.ref (a2 0), .ref (a4 0), .ref (a6 0), .ref (a8 0), .null, .null, .null, .null, .null, .null, .int 0, .int 0]) 45 C lff_X10_25 rfl rfl rfl (Nat.le_of_ble_eq_true rfl) rfl dX10_init_45 ?_
  refine n_aload0 48 C dX10_init_48 rfl ?_
  refine n_new 49 C lw_X10_29 (by decide) dX10_init_49 (fun q9 => ?_)
  refine Nx.weq (ws' := (h0, (.inr (10, [.ref (a2 0), .ref (a4 0), .ref (a6 0), .ref (a8 0), .null, .null, .null, .null, .null, .null, .int 0, .int 0]) : va_E)) :: (wb E sh_Game a2 ra2 ++ wb E sh_Game a4 ra4 ++ wb E sh_Game a6 ra6 ++ wb E sh_Tape a8 ra8 ++ [(q9, (.inr (8, [.null, .int 0]) : va_E))])) (c' := 51) (s' := 901) rfl rfl rfl ?_
  refine n_dup 52 C dX10_init_52 ?_
  refine n_callI (wr := (h0, (.inr (10, [.ref (a2 0), .ref (a4 0), .ref (a6 0), .ref (a8 0), .null, .null, .null, .null, .null, .null, .int 0, .int 0]) : va_E)) :: (wb E sh_Game a2 ra2 ++ wb E sh_Game a4 ra4 ++ wb E sh_Game a6 ra6 ++ wb E sh_Tape a8 ra8)) 53 C lmi_X10_31 lc0_X8_init (i_X8_init (l := mL q) E) rfl (by decide) (Nat.le_of_ble_eq_true rfl) dX10_init_53 (fun a10 ra10 ha hra10 => ?_)
  subst ha
  refine Nx.weq (ws' := (h0, (.inr (10, [.ref (a2 0), .ref (a4 0), .ref (a6 0), .ref (a8 0), .null, .null, .null, .null, .null, .null, .int 0, .int 0]) : va_E)) :: (wb E sh_Game a2 ra2 ++ wb E sh_Game a4 ra4 ++ wb E sh_Game a6 ra6 ++ wb E sh_Tape a8 ra8 ++ wb E sh_Told a10 ra10)) (c' := 52) (s' := 917) rfl rfl rfl ?_
  refine n_putF (wr := wb E sh_Game a2 ra2 ++ wb E sh_Game a4 ra4 ++ wb E sh_Game a6 ra6 ++ wb E sh_Tape a8 ra8 ++ wb E sh_Told a10 ra10) (fs' := [.ref (a2 0), .ref (a4 0), .ref (a6 0), .ref (a8 0), .ref (a10 0), .null, .null, .null, .null, .null, .int 0, .int 0]) 56 C lff_X10_32 rfl rfl rfl (Nat.le_of_ble_eq_true rfl) rfl dX10_init_56 ?_
  refine n_aload0 59 C dX10_init_59 rfl ?_
  refine n_new 60 C lw_X10_36 (by decide) dX10_init_60 (fun q11 => ?_)
  refine Nx.weq (ws' := (h0, (.inr (10, [.ref (a2 0), .ref (a4 0), .ref (a6 0), .ref (a8 0), .ref (a10 0), .null, .null, .null, .null, .null, .int 0, .int 0]) : va_E)) :: (wb E sh_Game a2 ra2 ++ wb E sh_Game a4 ra4 ++ wb E sh_Game a6 ra6 ++ wb E sh_Tape a8 ra8 ++ wb E sh_Told a10 ra10 ++ [(q11, (.inr (6, [.null, .null, .int 0, .int 0, .int 0]) : va_E))])) (c' := 53) (s' := 922) rfl rfl rfl ?_
  refine n_dup 63 C dX10_init_63 ?_
  refine n_callI (wr := (h0, (.inr (10, [.ref (a2 0), .ref (a4 0), .ref (a6 0), .ref (a8 0), .ref (a10 0), .null, .null, .null, .null, .null, .int 0, .int 0]) : va_E)) :: (wb E sh_Game a2 ra2 ++ wb E sh_Game a4 ra4 ++ wb E sh_Game a6 ra6 ++ wb E sh_Tape a8 ra8 ++ wb E sh_Told a10 ra10)) 64 C lmi_X10_38 lc0_X6_init (i_X6_init (l := mL q) E) rfl (by decide) (Nat.le_of_ble_eq_true rfl) dX10_init_64 (fun a12 ra12 ha hra12 => ?_)
  subst ha
  refine Nx.weq (ws' := (h0, (.inr (10, [.ref (a2 0), .ref (a4 0), .ref (a6 0), .ref (a8 0), .ref (a10 0), .null, .null, .null, .null, .null, .int 0, .int 0]) : va_E)) :: (wb E sh_Game a2 ra2 ++ wb E sh_Game a4 ra4 ++ wb E sh_Game a6 ra6 ++ wb E sh_Tape a8 ra8 ++ wb E sh_Told a10 ra10 ++ wb E sh_Search a12 ra12)) (c' := 65) (s' := 1092) rfl rfl rfl ?_
  refine n_putF (wr := wb E sh_Game a2 ra2 ++ wb E sh_Game a4 ra4 ++ wb E sh_Game a6 ra6 ++ wb E sh_Tape a8 ra8 ++ wb E sh_Told a10 ra10 ++ wb E sh_Search a12 ra12) (fs' := [.ref (a2 0), .ref (a4 0), .ref (a6 0), .ref (a8 0), .ref (a10 0), .ref (a12 0), .null, .null, .null, .null, .int 0, .int 0]) 67 C lff_X10_39 rfl rfl rfl (Nat.le_of_ble_eq_true rfl) rfl dX10_init_67 ?_
  refine n_aload0 70 C dX10_init_70 rfl ?_
  refine n_new 71 C lw_X10_43 (by decide) dX10_init_71 (fun q13 => ?_)
  refine Nx.weq (ws' := (h0, (.inr (10, [.ref (a2 0), .ref (a4 0), .ref (a6 0), .ref (a8 0), .ref (a10 0), .ref (a12 0), .null, .null, .null, .null, .int 0, .int 0]) : va_E)) :: (wb E sh_Game a2 ra2 ++ wb E sh_Game a4 ra4 ++ wb E sh_Game a6 ra6 ++ wb E sh_Tape a8 ra8 ++ wb E sh_Told a10 ra10 ++ wb E sh_Search a12 ra12 ++ [(q13, (.inr (9, [.null, .null, .null, .int 0, .int 0, .int 0]) : va_E))])) (c' := 66) (s' := 1098) rfl rfl rfl ?_
  refine n_dup 74 C dX10_init_74 ?_
  refine n_callI (wr := (h0, (.inr (10, [.ref (a2 0), .ref (a4 0), .ref (a6 0), .ref (a8 0), .ref (a10 0), .ref (a12 0), .null, .null, .null, .null, .int 0, .int 0]) : va_E)) :: (wb E sh_Game a2 ra2 ++ wb E sh_Game a4 ra4 ++ wb E sh_Game a6 ra6 ++ wb E sh_Tape a8 ra8 ++ wb E sh_Told a10 ra10 ++ wb E sh_Search a12 ra12)) 75 C lmi_X10_45 lc0_X9_init (i_X9_init (l := mL q) E) rfl (by decide) (Nat.le_of_ble_eq_true rfl) dX10_init_75 (fun a14 ra14 ha hra14 => ?_)
  subst ha
  refine Nx.weq (ws' := (h0, (.inr (10, [.ref (a2 0), .ref (a4 0), .ref (a6 0), .ref (a8 0), .ref (a10 0), .ref (a12 0), .null, .null, .null, .null, .int 0, .int 0]) : va_E)) :: (wb E sh_Game a2 ra2 ++ wb E sh_Game a4 ra4 ++ wb E sh_Game a6 ra6 ++ wb E sh_Tape a8 ra8 ++ wb E sh_Told a10 ra10 ++ wb E sh_Search a12 ra12 ++ wb E sh_Work a14 ra14)) (c' := 84) (s' := 1455) rfl rfl rfl ?_
  refine n_putF (wr := wb E sh_Game a2 ra2 ++ wb E sh_Game a4 ra4 ++ wb E sh_Game a6 ra6 ++ wb E sh_Tape a8 ra8 ++ wb E sh_Told a10 ra10 ++ wb E sh_Search a12 ra12 ++ wb E sh_Work a14 ra14) (fs' := [.ref (a2 0), .ref (a4 0), .ref (a6 0), .ref (a8 0), .ref (a10 0), .ref (a12 0), .ref (a14 0), .null, .null, .null, .int 0, .int 0]) 78 C lff_X10_46 rfl rfl rfl (Nat.le_of_ble_eq_true rfl) rfl dX10_init_78 ?_
  refine n_aload0 81 C dX10_init_81 rfl ?_
  refine n_new 82 C lw_X10_50 (by decide) dX10_init_82 (fun q15 => ?_)
  refine Nx.weq (ws' := (h0, (.inr (10, [.ref (a2 0), .ref (a4 0), .ref (a6 0), .ref (a8 0), .ref (a10 0), .ref (a12 0), .ref (a14 0), .null, .null, .null, .int 0, .int 0]) : va_E)) :: (wb E sh_Game a2 ra2 ++ wb E sh_Game a4 ra4 ++ wb E sh_Game a6 ra6 ++ wb E sh_Tape a8 ra8 ++ wb E sh_Told a10 ra10 ++ wb E sh_Search a12 ra12 ++ wb E sh_Work a14 ra14 ++ [(q15, (.inr (5, [.null, .null, .null]) : va_E))])) (c' := 85) (s' := 1458) rfl rfl rfl ?_
  refine n_dup 85 C dX10_init_85 ?_
  refine n_callI (wr := (h0, (.inr (10, [.ref (a2 0), .ref (a4 0), .ref (a6 0), .ref (a8 0), .ref (a10 0), .ref (a12 0), .ref (a14 0), .null, .null, .null, .int 0, .int 0]) : va_E)) :: (wb E sh_Game a2 ra2 ++ wb E sh_Game a4 ra4 ++ wb E sh_Game a6 ra6 ++ wb E sh_Tape a8 ra8 ++ wb E sh_Told a10 ra10 ++ wb E sh_Search a12 ra12 ++ wb E sh_Work a14 ra14)) 86 C lmi_X10_52 lc0_X5_init (i_X5_init (l := mL q) E) rfl (by decide) (Nat.le_of_ble_eq_true rfl) dX10_init_86 (fun a16 ra16 ha hra16 => ?_)
  subst ha
  refine Nx.weq (ws' := (h0, (.inr (10, [.ref (a2 0), .ref (a4 0), .ref (a6 0), .ref (a8 0), .ref (a10 0), .ref (a12 0), .ref (a14 0), .null, .null, .null, .int 0, .int 0]) : va_E)) :: (wb E sh_Game a2 ra2 ++ wb E sh_Game a4 ra4 ++ wb E sh_Game a6 ra6 ++ wb E sh_Tape a8 ra8 ++ wb E sh_Told a10 ra10 ++ wb E sh_Search a12 ra12 ++ wb E sh_Work a14 ra14 ++ wb E sh_Pile a16 ra16)) (c' := 88) (s' := 1488) rfl rfl rfl ?_
  refine n_putF (wr := wb E sh_Game a2 ra2 ++ wb E sh_Game a4 ra4 ++ wb E sh_Game a6 ra6 ++ wb E sh_Tape a8 ra8 ++ wb E sh_Told a10 ra10 ++ wb E sh_Search a12 ra12 ++ wb E sh_Work a14 ra14 ++ wb E sh_Pile a16 ra16) (fs' := [.ref (a2 0), .ref (a4 0), .ref (a6 0), .ref (a8 0), .ref (a10 0), .ref (a12 0), .ref (a14 0), .ref (a16 0), .null, .null, .int 0, .int 0]) 89 C lff_X10_53 rfl rfl rfl (Nat.le_of_ble_eq_true rfl) rfl dX10_init_89 ?_
  refine n_aload0 92 C dX10_init_92 rfl ?_
  refine n_new 93 C lw_X10_57 (by decide) dX10_init_93 (fun q17 => ?_)
  refine Nx.weq (ws' := (h0, (.inr (10, [.ref (a2 0), .ref (a4 0), .ref (a6 0), .ref (a8 0), .ref (a10 0), .ref (a12 0), .ref (a14 0), .ref (a16 0), .null, .null, .int 0, .int 0]) : va_E)) :: (wb E sh_Game a2 ra2 ++ wb E sh_Game a4 ra4 ++ wb E sh_Game a6 ra6 ++ wb E sh_Tape a8 ra8 ++ wb E sh_Told a10 ra10 ++ wb E sh_Search a12 ra12 ++ wb E sh_Work a14 ra14 ++ wb E sh_Pile a16 ra16 ++ [(q17, (.inr (2, [.null, .int 0]) : va_E))])) (c' := 89) (s' := 1490) rfl rfl rfl ?_
  refine n_dup 96 C dX10_init_96 ?_
  refine n_callI (wr := (h0, (.inr (10, [.ref (a2 0), .ref (a4 0), .ref (a6 0), .ref (a8 0), .ref (a10 0), .ref (a12 0), .ref (a14 0), .ref (a16 0), .null, .null, .int 0, .int 0]) : va_E)) :: (wb E sh_Game a2 ra2 ++ wb E sh_Game a4 ra4 ++ wb E sh_Game a6 ra6 ++ wb E sh_Tape a8 ra8 ++ wb E sh_Told a10 ra10 ++ wb E sh_Search a12 ra12 ++ wb E sh_Work a14 ra14 ++ wb E sh_Pile a16 ra16)) 97 C lmi_X10_59 lc0_X2_init (i_X2_init (l := mL q) E) rfl (by decide) (Nat.le_of_ble_eq_true rfl) dX10_init_97 (fun a18 ra18 ha hra18 => ?_)
  subst ha
  refine Nx.weq (ws' := (h0, (.inr (10, [.ref (a2 0), .ref (a4 0), .ref (a6 0), .ref (a8 0), .ref (a10 0), .ref (a12 0), .ref (a14 0), .ref (a16 0), .null, .null, .int 0, .int 0]) : va_E)) :: (wb E sh_Game a2 ra2 ++ wb E sh_Game a4 ra4 ++ wb E sh_Game a6 ra6 ++ wb E sh_Tape a8 ra8 ++ wb E sh_Told a10 ra10 ++ wb E sh_Search a12 ra12 ++ wb E sh_Work a14 ra14 ++ wb E sh_Pile a16 ra16 ++ wb E sh_Evening a18 ra18)) (c' := 95) (s' := 1575) rfl rfl rfl ?_
  refine n_putF (wr := wb E sh_Game a2 ra2 ++ wb E sh_Game a4 ra4 ++ wb E sh_Game a6 ra6 ++ wb E sh_Tape a8 ra8 ++ wb E sh_Told a10 ra10 ++ wb E sh_Search a12 ra12 ++ wb E sh_Work a14 ra14 ++ wb E sh_Pile a16 ra16 ++ wb E sh_Evening a18 ra18) (fs' := [.ref (a2 0), .ref (a4 0), .ref (a6 0), .ref (a8 0), .ref (a10 0), .ref (a12 0), .ref (a14 0), .ref (a16 0), .ref (a18 0), .null, .int 0, .int 0]) 100 C lff_X10_60 rfl rfl rfl (Nat.le_of_ble_eq_true rfl) rfl dX10_init_100 ?_
  refine n_aload0 103 C dX10_init_103 rfl ?_
  refine n_bipush (v := 7) 104 C dX10_init_104 (by decide) ?_
  refine n_newaI (N := 7) 106 C ac_int (by decide) (by decide) (by decide) (by decide) dX10_init_106 (fun q19 => ?_)
  refine Nx.weq (ws' := (h0, (.inr (10, [.ref (a2 0), .ref (a4 0), .ref (a6 0), .ref (a8 0), .ref (a10 0), .ref (a12 0), .ref (a14 0), .ref (a16 0), .ref (a18 0), .null, .int 0, .int 0]) : va_E)) :: (wb E sh_Game a2 ra2 ++ wb E sh_Game a4 ra4 ++ wb E sh_Game a6 ra6 ++ wb E sh_Tape a8 ra8 ++ wb E sh_Told a10 ra10 ++ wb E sh_Search a12 ra12 ++ wb E sh_Work a14 ra14 ++ wb E sh_Pile a16 ra16 ++ wb E sh_Evening a18 ra18 ++ [(q19, (.inl (E.2.2.1 (nCls + 0), 7, .inl fun _ => 0) : va_E))])) (c' := 96) (s' := 1582) rfl rfl rfl ?_
  refine n_putF (wr := wb E sh_Game a2 ra2 ++ wb E sh_Game a4 ra4 ++ wb E sh_Game a6 ra6 ++ wb E sh_Tape a8 ra8 ++ wb E sh_Told a10 ra10 ++ wb E sh_Search a12 ra12 ++ wb E sh_Work a14 ra14 ++ wb E sh_Pile a16 ra16 ++ wb E sh_Evening a18 ra18 ++ [(q19, (.inl (E.2.2.1 (nCls + 0), 7, .inl fun _ => 0) : va_E))]) (fs' := [.ref (a2 0), .ref (a4 0), .ref (a6 0), .ref (a8 0), .ref (a10 0), .ref (a12 0), .ref (a14 0), .ref (a16 0), .ref (a18 0), .ref (q19), .int 0, .int 0]) 108 C lff_X10_64 rfl rfl rfl (Nat.le_of_ble_eq_true rfl) rfl dX10_init_108 ?_
  refine n_aload0 111 C dX10_init_111 rfl ?_
  refine n_iconst (v := 0) 112 C dX10_init_112 (by decide) ?_
  refine n_putI (wr := wb E sh_Game a2 ra2 ++ wb E sh_Game a4 ra4 ++ wb E sh_Game a6 ra6 ++ wb E sh_Tape a8 ra8 ++ wb E sh_Told a10 ra10 ++ wb E sh_Search a12 ra12 ++ wb E sh_Work a14 ra14 ++ wb E sh_Pile a16 ra16 ++ wb E sh_Evening a18 ra18 ++ [(q19, (.inl (E.2.2.1 (nCls + 0), 7, .inl fun _ => 0) : va_E))]) (fs' := [.ref (a2 0), .ref (a4 0), .ref (a6 0), .ref (a8 0), .ref (a10 0), .ref (a12 0), .ref (a14 0), .ref (a16 0), .ref (a18 0), .ref (q19), .int 0, .int 0]) 113 C lp_X10_68 rfl rfl rfl (Nat.le_of_ble_eq_true rfl) rfl dX10_init_113 ?_
  refine n_aload0 116 C dX10_init_116 rfl ?_
  refine n_iconst (v := 0) 117 C dX10_init_117 (by decide) ?_
  refine n_putI (wr := wb E sh_Game a2 ra2 ++ wb E sh_Game a4 ra4 ++ wb E sh_Game a6 ra6 ++ wb E sh_Tape a8 ra8 ++ wb E sh_Told a10 ra10 ++ wb E sh_Search a12 ra12 ++ wb E sh_Work a14 ra14 ++ wb E sh_Pile a16 ra16 ++ wb E sh_Evening a18 ra18 ++ [(q19, (.inl (E.2.2.1 (nCls + 0), 7, .inl fun _ => 0) : va_E))]) (fs' := [.ref (a2 0), .ref (a4 0), .ref (a6 0), .ref (a8 0), .ref (a10 0), .ref (a12 0), .ref (a14 0), .ref (a16 0), .ref (a18 0), .ref (q19), .int 0, .int 0]) 118 C lp_X10_72 rfl rfl rfl (Nat.le_of_ble_eq_true rfl) rfl dX10_init_118 ?_
  subst hra2; subst hra4; subst hra6; subst hra8; subst hra10; subst hra12; subst hra14; subst hra16; subst hra18;
  obtain ⟨ad, had⟩ : ∃ ad : Nat → Nat, ad = (fun j => if j < 1 then h0 else if j < 17 then a2 (j - 1) else if j < 33 then a4 (j - 17) else if j < 49 then a6 (j - 33) else if j < 51 then a8 (j - 49) else if j < 53 then a10 (j - 51) else if j < 66 then a12 (j - 53) else if j < 85 then a14 (j - 66) else if j < 89 then a16 (j - 85) else if j < 96 then a18 (j - 89) else q19) := ⟨_, rfl⟩
  refine n_retW 121 C ⟨ad, by rw [had]; rfl, ?_⟩ (by decide) dX10_init_121
  rw [show List.range 97 = (List.range 1).map (fun j => 0 + j) ++ (List.range 16).map (fun j => 1 + j) ++ (List.range 16).map (fun j => 17 + j) ++ (List.range 16).map (fun j => 33 + j) ++ (List.range 2).map (fun j => 49 + j) ++ (List.range 2).map (fun j => 51 + j) ++ (List.range 13).map (fun j => 53 + j) ++ (List.range 19).map (fun j => 66 + j) ++ (List.range 4).map (fun j => 85 + j) ++ (List.range 7).map (fun j => 89 + j) ++ (List.range 1).map (fun j => 96 + j) from by decide]
  simp only [wo_app]
  have e0 : wo (E.1, ad, E.2.2) ((List.range 1).map (fun j => 0 + j)) rho_AuntsPuzzle = [(h0, .inr (10, [.ref (a2 0), .ref (a4 0), .ref (a6 0), .ref (a8 0), .ref (a10 0), .ref (a12 0), .ref (a14 0), .ref (a16 0), .ref (a18 0), .ref (q19), .int 0, .int 0]))] := by rw [had]; rfl
  rw [← show wb E sh_Game a2 rho_Game = wo (E.1, ad, E.2.2) ((List.range 16).map (fun j => 1 + j)) rho_AuntsPuzzle from wb_wo E 1 (fun j hj => by have hj : j < 16 := hj; rw [had]; (try dsimp only); rw [if_neg (show ¬ 1 + j < 1 by omega), if_pos (show 1 + j < 17 by omega), show 1 + j - 1 = j by omega]) (fun j hj => by have hj : j < 16 := hj; unfold rho_AuntsPuzzle; (try dsimp only); rw [if_neg (show ¬ 1 + j < 1 by omega), if_pos (show 1 + j < 17 by omega), show 1 + j - 1 = j by omega]) (by decide +kernel) (by decide +kernel)]
  rw [← show wb E sh_Game a4 rho_Game = wo (E.1, ad, E.2.2) ((List.range 16).map (fun j => 17 + j)) rho_AuntsPuzzle from wb_wo E 17 (fun j hj => by have hj : j < 16 := hj; rw [had]; (try dsimp only); rw [if_neg (show ¬ 17 + j < 1 by omega), if_neg (show ¬ 17 + j < 17 by omega), if_pos (show 17 + j < 33 by omega), show 17 + j - 17 = j by omega]) (fun j hj => by have hj : j < 16 := hj; unfold rho_AuntsPuzzle; (try dsimp only); rw [if_neg (show ¬ 17 + j < 1 by omega), if_neg (show ¬ 17 + j < 17 by omega), if_pos (show 17 + j < 33 by omega), show 17 + j - 17 = j by omega]) (by decide +kernel) (by decide +kernel)]
  rw [← show wb E sh_Game a6 rho_Game = wo (E.1, ad, E.2.2) ((List.range 16).map (fun j => 33 + j)) rho_AuntsPuzzle from wb_wo E 33 (fun j hj => by have hj : j < 16 := hj; rw [had]; (try dsimp only); rw [if_neg (show ¬ 33 + j < 1 by omega), if_neg (show ¬ 33 + j < 17 by omega), if_neg (show ¬ 33 + j < 33 by omega), if_pos (show 33 + j < 49 by omega), show 33 + j - 33 = j by omega]) (fun j hj => by have hj : j < 16 := hj; unfold rho_AuntsPuzzle; (try dsimp only); rw [if_neg (show ¬ 33 + j < 1 by omega), if_neg (show ¬ 33 + j < 17 by omega), if_neg (show ¬ 33 + j < 33 by omega), if_pos (show 33 + j < 49 by omega), show 33 + j - 33 = j by omega]) (by decide +kernel) (by decide +kernel)]
  rw [← show wb E sh_Tape a8 z0 = wo (E.1, ad, E.2.2) ((List.range 2).map (fun j => 49 + j)) rho_AuntsPuzzle from wb_wo E 49 (fun j hj => by have hj : j < 2 := hj; rw [had]; (try dsimp only); rw [if_neg (show ¬ 49 + j < 1 by omega), if_neg (show ¬ 49 + j < 17 by omega), if_neg (show ¬ 49 + j < 33 by omega), if_neg (show ¬ 49 + j < 49 by omega), if_pos (show 49 + j < 51 by omega), show 49 + j - 49 = j by omega]) (fun j hj => by have hj : j < 2 := hj; unfold rho_AuntsPuzzle; (try dsimp only); rw [if_neg (show ¬ 49 + j < 1 by omega), if_neg (show ¬ 49 + j < 17 by omega), if_neg (show ¬ 49 + j < 33 by omega), if_neg (show ¬ 49 + j < 49 by omega), if_pos (show 49 + j < 51 by omega), show 49 + j - 49 = j by omega]) (by decide +kernel) (by decide +kernel)]
  rw [← show wb E sh_Told a10 z0 = wo (E.1, ad, E.2.2) ((List.range 2).map (fun j => 51 + j)) rho_AuntsPuzzle from wb_wo E 51 (fun j hj => by have hj : j < 2 := hj; rw [had]; (try dsimp only); rw [if_neg (show ¬ 51 + j < 1 by omega), if_neg (show ¬ 51 + j < 17 by omega), if_neg (show ¬ 51 + j < 33 by omega), if_neg (show ¬ 51 + j < 49 by omega), if_neg (show ¬ 51 + j < 51 by omega), if_pos (show 51 + j < 53 by omega), show 51 + j - 51 = j by omega]) (fun j hj => by have hj : j < 2 := hj; unfold rho_AuntsPuzzle; (try dsimp only); rw [if_neg (show ¬ 51 + j < 1 by omega), if_neg (show ¬ 51 + j < 17 by omega), if_neg (show ¬ 51 + j < 33 by omega), if_neg (show ¬ 51 + j < 49 by omega), if_neg (show ¬ 51 + j < 51 by omega), if_pos (show 51 + j < 53 by omega), show 51 + j - 51 = j by omega]) (by decide +kernel) (by decide +kernel)]
  rw [← show wb E sh_Search a12 rho_Search = wo (E.1, ad, E.2.2) ((List.range 13).map (fun j => 53 + j)) rho_AuntsPuzzle from wb_wo E 53 (fun j hj => by have hj : j < 13 := hj; rw [had]; (try dsimp only); rw [if_neg (show ¬ 53 + j < 1 by omega), if_neg (show ¬ 53 + j < 17 by omega), if_neg (show ¬ 53 + j < 33 by omega), if_neg (show ¬ 53 + j < 49 by omega), if_neg (show ¬ 53 + j < 51 by omega), if_neg (show ¬ 53 + j < 53 by omega), if_pos (show 53 + j < 66 by omega), show 53 + j - 53 = j by omega]) (fun j hj => by have hj : j < 13 := hj; unfold rho_AuntsPuzzle; (try dsimp only); rw [if_neg (show ¬ 53 + j < 1 by omega), if_neg (show ¬ 53 + j < 17 by omega), if_neg (show ¬ 53 + j < 33 by omega), if_neg (show ¬ 53 + j < 49 by omega), if_neg (show ¬ 53 + j < 51 by omega), if_neg (show ¬ 53 + j < 53 by omega), if_pos (show 53 + j < 66 by omega), show 53 + j - 53 = j by omega]) (by decide +kernel) (by decide +kernel)]
  rw [← show wb E sh_Work a14 rho_Work = wo (E.1, ad, E.2.2) ((List.range 19).map (fun j => 66 + j)) rho_AuntsPuzzle from wb_wo E 66 (fun j hj => by have hj : j < 19 := hj; rw [had]; (try dsimp only); rw [if_neg (show ¬ 66 + j < 1 by omega), if_neg (show ¬ 66 + j < 17 by omega), if_neg (show ¬ 66 + j < 33 by omega), if_neg (show ¬ 66 + j < 49 by omega), if_neg (show ¬ 66 + j < 51 by omega), if_neg (show ¬ 66 + j < 53 by omega), if_neg (show ¬ 66 + j < 66 by omega), if_pos (show 66 + j < 85 by omega), show 66 + j - 66 = j by omega]) (fun j hj => by have hj : j < 19 := hj; unfold rho_AuntsPuzzle; (try dsimp only); rw [if_neg (show ¬ 66 + j < 1 by omega), if_neg (show ¬ 66 + j < 17 by omega), if_neg (show ¬ 66 + j < 33 by omega), if_neg (show ¬ 66 + j < 49 by omega), if_neg (show ¬ 66 + j < 51 by omega), if_neg (show ¬ 66 + j < 53 by omega), if_neg (show ¬ 66 + j < 66 by omega), if_pos (show 66 + j < 85 by omega), show 66 + j - 66 = j by omega]) (by decide +kernel) (by decide +kernel)]
  rw [← show wb E sh_Pile a16 z0 = wo (E.1, ad, E.2.2) ((List.range 4).map (fun j => 85 + j)) rho_AuntsPuzzle from wb_wo E 85 (fun j hj => by have hj : j < 4 := hj; rw [had]; (try dsimp only); rw [if_neg (show ¬ 85 + j < 1 by omega), if_neg (show ¬ 85 + j < 17 by omega), if_neg (show ¬ 85 + j < 33 by omega), if_neg (show ¬ 85 + j < 49 by omega), if_neg (show ¬ 85 + j < 51 by omega), if_neg (show ¬ 85 + j < 53 by omega), if_neg (show ¬ 85 + j < 66 by omega), if_neg (show ¬ 85 + j < 85 by omega), if_pos (show 85 + j < 89 by omega), show 85 + j - 85 = j by omega]) (fun j hj => by have hj : j < 4 := hj; unfold rho_AuntsPuzzle; (try dsimp only); rw [if_neg (show ¬ 85 + j < 1 by omega), if_neg (show ¬ 85 + j < 17 by omega), if_neg (show ¬ 85 + j < 33 by omega), if_neg (show ¬ 85 + j < 49 by omega), if_neg (show ¬ 85 + j < 51 by omega), if_neg (show ¬ 85 + j < 53 by omega), if_neg (show ¬ 85 + j < 66 by omega), if_neg (show ¬ 85 + j < 85 by omega), if_pos (show 85 + j < 89 by omega), show 85 + j - 85 = j by omega]) (by decide +kernel) (by decide +kernel)]
  rw [← show wb E sh_Evening a18 rho_Evening = wo (E.1, ad, E.2.2) ((List.range 7).map (fun j => 89 + j)) rho_AuntsPuzzle from wb_wo E 89 (fun j hj => by have hj : j < 7 := hj; rw [had]; (try dsimp only); rw [if_neg (show ¬ 89 + j < 1 by omega), if_neg (show ¬ 89 + j < 17 by omega), if_neg (show ¬ 89 + j < 33 by omega), if_neg (show ¬ 89 + j < 49 by omega), if_neg (show ¬ 89 + j < 51 by omega), if_neg (show ¬ 89 + j < 53 by omega), if_neg (show ¬ 89 + j < 66 by omega), if_neg (show ¬ 89 + j < 85 by omega), if_neg (show ¬ 89 + j < 89 by omega), if_pos (show 89 + j < 96 by omega), show 89 + j - 89 = j by omega]) (fun j hj => by have hj : j < 7 := hj; unfold rho_AuntsPuzzle; (try dsimp only); rw [if_neg (show ¬ 89 + j < 1 by omega), if_neg (show ¬ 89 + j < 17 by omega), if_neg (show ¬ 89 + j < 33 by omega), if_neg (show ¬ 89 + j < 49 by omega), if_neg (show ¬ 89 + j < 51 by omega), if_neg (show ¬ 89 + j < 53 by omega), if_neg (show ¬ 89 + j < 66 by omega), if_neg (show ¬ 89 + j < 85 by omega), if_neg (show ¬ 89 + j < 89 by omega), if_pos (show 89 + j < 96 by omega), show 89 + j - 89 = j by omega]) (by decide +kernel) (by decide +kernel)]
  have e96 : wo (E.1, ad, E.2.2) ((List.range 1).map (fun j => 96 + j)) rho_AuntsPuzzle = [(q19, (.inl (E.2.2.1 (nCls + 0), 7, .inl fun _ => 0) : va_E))] := by rw [had]; rfl
  rw [e0, e96]
  rfl
