/-! class and reference side by side: what holds between them -/
/-- the reference's game: right, down, colour, piece, turn, by, lost, kind, pace, spent, and rows, columns, people -/
def gM (τ : Sg) : Sg := fun j => match j with
  | 0 => τ 105
  | 1 => τ 106
  | 2 => τ 107
  | 3 => τ 108
  | 4 => τ 109
  | 5 => τ 110
  | 6 => τ 111
  | 7 => τ 112
  | 8 => τ 113
  | 9 => τ 114
  | _ => fun i => τ 103 (11 + i)
/-- the game that it keeps at w -/
def gK (τ : Sg) (w : Nat) : Sg := fun j i => τ 121 (200 * w + ((if j < 7 then 16 * j else if j < 10 then 112 + 6 * (j - 7) else 130) + i))
/-- two games are alike -/
def EqA (G' G : Sg) : Prop := (∀ j, j < 7 → ∀ i, i < 16 → G' j i = G j i) ∧ (∀ j, 7 ≤ j → j < 10 → ∀ i, i < 6 → G' j i = G j i) ∧ ∀ i, i < 3 → G' 10 i = G 10 i
theorem EqA.refl {G : Sg} : EqA G G := ⟨fun _ _ _ _ => rfl, fun _ _ _ _ _ => rfl, fun _ _ => rfl⟩
theorem EqA.symm {G G' : Sg} (h : EqA G' G) : EqA G G' := ⟨fun a b d e => (h.1 a b d e).symm, fun a b d e f => (h.2.1 a b d e f).symm, fun a b => (h.2.2 a b).symm⟩
theorem EqA.trans {G G' G'' : Sg} (h : EqA G' G) (g : EqA G'' G') : EqA G'' G := ⟨fun a b d e => (g.1 a b d e).trans (h.1 a b d e), fun a b d e f => (g.2.1 a b d e f).trans (h.2.1 a b d e f), fun a b => (g.2.2 a b).trans (h.2.2 a b)⟩
/-- a game as it may be -/
def GOk (G : Sg) (r c B : Nat) : Prop := (G 10 0 = nI r ∧ G 10 1 = nI c ∧ (2 ≤ r ∧ r < 5) ∧ (2 ≤ c ∧ c < 5)) ∧ Ed (G 0) (G 1) ∧ (∀ q, q < 16 → G 3 q = -1 ∨ (q < r * c ∧ ∃ p t, p < r * c ∧ t < 4 ∧ G 3 q = nI p ∧ G 4 q = nI t)) ∧ (∀ q q', q < 16 → q' < 16 → G 3 q = G 3 q' → G 3 q = -1 ∨ q = q') ∧ (∀ p, p < 16 → G 6 p = 0 ∨ (G 6 p = 1 ∧ p < r * c)) ∧ ∃ n, n ≤ 6 ∧ G 10 2 = nI n ∧ ∀ w, w < n → (∃ d, d < 5 ∧ G 7 w = nI d) ∧ (∃ v, 1 ≤ v ∧ v ≤ 9 ∧ G 8 w = nI v) ∧ ∃ s, s ≤ B ∧ G 9 w = nI s
/-- the class's game at k is G -/
def GameOk (σ : Sg) (k : Nat) (G : Sg) (r c : Nat) : Prop := CutOk σ (k + 1) r c (G 0) (G 1) ∧ (∀ i, i < 16 → nz (σ (k + 4) i) = σ (k + 4) i) ∧ (∀ p, p < r * c → σ (k + 5) p = G 2 p) ∧ (∀ q, q < 16 → σ (k + 7) q = G 3 q ∧ σ (k + 8) q = G 4 q ∧ σ (k + 9) q = G 5 q ∧ σ (k + 10) q = b2 (laidB (G 3) (r * c) (nI q)) ∧ σ (k + 11) q = G 6 q) ∧ σ (k + 12) 0 = G 10 2 ∧ ∀ w, w < 6 → σ (k + 13) w = G 7 w ∧ σ (k + 14) w = G 8 w ∧ σ (k + 15) w = G 9 w
theorem CutOk.cg {σ : Sg} {k r c : Nat} {ri dn ri' dn' : Nat → Int32} (h : CutOk σ k r c ri dn) (e : ∀ q, q < 16 → ri' q = ri q ∧ dn' q = dn q) : CutOk σ k r c ri' dn' := by
  obtain ⟨g0, g1, g2, h1, h2, gv, gr⟩ := h
  exact ⟨g0, g1, g2, h1, h2, fun p hp s hs => ⟨(gv p hp s hs).1, (gv p hp s hs).2.trans (sdv_cg h1 h2 hp hs e).symm⟩, gr⟩
theorem laid_cg {pc pc' : Nat → Int32} {m : Nat} {x : Int32} (h : ∀ q, q < m → pc' q = pc q) : laidB pc' m x = laidB pc m x := by
  cases h1 : laidB pc m x with
  | true =>
    obtain ⟨q, a, b⟩ := laidB_iff.mp h1
    exact laidB_iff.mpr ⟨q, a, (h q a).trans b⟩
  | false =>
    cases h2 : laidB pc' m x with
    | false => rfl
    | true =>
      obtain ⟨q, a, b⟩ := laidB_iff.mp h2
      rw [laidB_iff.mpr ⟨q, a, (h q a).symm.trans b⟩] at h1
      cases h1
theorem GOk.rc {G : Sg} {r c B : Nat} (h : GOk G r c B) : r * c ≤ 16 := rc16 h.1.2.2.1 h.1.2.2.2
theorem GameOk.cg {σ : Sg} {k r c : Nat} {G G' : Sg} (h : GameOk σ k G r c) (e : EqA G' G) : GameOk σ k G' r c := by
  have hrc := h.1.rc
  obtain ⟨h1, h2, h3, h4, h5, h6⟩ := h
  refine ⟨h1.cg (fun q hq => ⟨e.1 0 (by decide) q hq, e.1 1 (by decide) q hq⟩), h2, fun p hp => ?_, fun q hq => ?_, ?_, fun w hw => ?_⟩
  · rw [h3 p hp, e.1 2 (by decide) p (by omega)]
  · rw [e.1 3 (by decide) q hq, e.1 4 (by decide) q hq, e.1 5 (by decide) q hq, e.1 6 (by decide) q hq, laid_cg (fun o ho => e.1 3 (by decide) o (by omega))]
    exact h4 q hq
  · rw [h5, e.2.2 2 (by decide)]
  · rw [e.2.1 7 (by decide) (by decide) w hw, e.2.1 8 (by decide) (by decide) w hw, e.2.1 9 (by decide) (by decide) w hw]
    exact h6 w hw
theorem GOk.cg {G G' : Sg} {r c B : Nat} (h : GOk G r c B) (e : EqA G' G) : GOk G' r c B := by
  obtain ⟨⟨a1, a2, a3, a4⟩, b, d, f, g, n, n1, n2, n3⟩ := h
  refine ⟨⟨by rw [e.2.2 0 (by decide), a1], by rw [e.2.2 1 (by decide), a2], a3, a4⟩, fun p hp => ?_, fun q hq => ?_, fun q q' hq hq' => ?_, fun p hp => ?_, n, n1, by rw [e.2.2 2 (by decide), n2], fun w hw => ?_⟩
  · rw [e.1 0 (by decide) p hp, e.1 1 (by decide) p hp]; exact b p hp
  · rw [e.1 3 (by decide) q hq, e.1 4 (by decide) q hq]; exact d q hq
  · rw [e.1 3 (by decide) q hq, e.1 3 (by decide) q' hq']; exact f q q' hq hq'
  · rw [e.1 6 (by decide) p hp]; exact g p hp
  · rw [e.2.1 7 (by decide) (by decide) w (by omega), e.2.1 8 (by decide) (by decide) w (by omega), e.2.1 9 (by decide) (by decide) w (by omega)]
    exact n3 w hw
theorem GOk.mono {G : Sg} {r c B B' : Nat} (h : GOk G r c B) (hB : B ≤ B') : GOk G r c B' := by
  obtain ⟨a, b, d, f, g, n, n1, n2, n3⟩ := h
  refine ⟨a, b, d, f, g, n, n1, n2, fun w hw => ?_⟩
  obtain ⟨x, y, s, s1, s2⟩ := n3 w hw
  exact ⟨x, y, s, by omega, s2⟩
theorem GameOk.eq {υ σ G : Sg} {k1 k2 r c : Nat} (h : GameOk σ k2 G r c) (e : EqG υ k1 σ k2) : GameOk υ k1 G r c := by
  have hrc := h.1.rc
  obtain ⟨h1, h2, h3, h4, h5, h6⟩ := h
  obtain ⟨e1, e2, e3⟩ := e
  refine ⟨h1.eq e1, fun i hi => ?_, fun p hp => ?_, fun q hq => ?_, ?_, fun w hw => ?_⟩
  · show nz (υ (k1 + 1 + 3) i) = υ (k1 + 1 + 3) i
    rw [(e1.2.2 i hi).1]; exact h2 i hi
  · show υ (k1 + 1 + 4) p = _
    rw [(e1.2.2 p (by omega)).2]; exact h3 p hp
  · obtain ⟨q1, q2, q3, q4, q5⟩ := e2 q hq
    show υ (k1 + 6 + 1) q = _ ∧ υ (k1 + 6 + 2) q = _ ∧ υ (k1 + 6 + 3) q = _ ∧ υ (k1 + 6 + 4) q = _ ∧ υ (k1 + 6 + 5) q = _
    rw [q1, q2, q3, q4, q5]; exact h4 q hq
  · rw [e3.1]; exact h5
  · obtain ⟨q1, q2, q3⟩ := e3.2 w hw
    show υ (k1 + 12 + 1) w = _ ∧ υ (k1 + 12 + 2) w = _ ∧ υ (k1 + 12 + 3) w = _
    rw [q1, q2, q3]; exact h6 w hw
theorem GameOk.fr {υ σ G : Sg} {k r c : Nat} (h : GameOk σ k G r c) (e : ∀ j, 1 ≤ j → j ≤ 15 → υ (k + j) = σ (k + j)) : GameOk υ k G r c := by
  obtain ⟨h1, h2, h3, h4, h5, h6⟩ := h
  refine ⟨h1.fr (fun j hj => ?_), ?_, ?_, ?_, ?_, ?_⟩
  · rw [show k + 1 + j = k + (1 + j) by omega]; exact e _ (by omega) (by omega)
  · rw [e 4 (by decide) (by decide)]; exact h2
  · rw [e 5 (by decide) (by decide)]; exact h3
  · rw [e 7 (by decide) (by decide), e 8 (by decide) (by decide), e 9 (by decide) (by decide), e 10 (by decide) (by decide), e 11 (by decide) (by decide)]; exact h4
  · rw [e 12 (by decide) (by decide)]; exact h5
  · rw [e 13 (by decide) (by decide), e 14 (by decide) (by decide), e 15 (by decide) (by decide)]; exact h6
theorem GameOk.bob {σ G : Sg} {k r c B : Nat} (h : GameOk σ k G r c) (g : GOk G r c B) : BoB σ (k + 6) := fun i hi => by
  obtain ⟨-, -, -, h4, -⟩ := h
  obtain ⟨-, -, -, q4, q5⟩ := h4 i hi
  show nz (σ (k + 10) i) = σ (k + 10) i ∧ nz (σ (k + 11) i) = σ (k + 11) i
  rw [q4, q5]
  refine ⟨nz_b, ?_⟩
  rcases g.2.2.2.2.1 i hi with e | e
  · rw [e]; exact nz_0
  · rw [e.1]; exact nz_1
theorem GameOk.bdx {σ G : Sg} {k r c B : Nat} (h : GameOk σ k G r c) (g : GOk G r c B) : BdX σ (k + 6) r c := fun q hq => by
  have hrc := g.rc
  obtain ⟨-, -, -, h4, -⟩ := h
  obtain ⟨q1, q2, -⟩ := h4 q (by omega)
  show σ (k + 7) q = -1 ∨ ((∃ p, p < r * c ∧ σ (k + 7) q = nI p) ∧ ∃ t, t < 4 ∧ σ (k + 8) q = nI t)
  rw [q1, q2]
  rcases g.2.2.1 q (by omega) with e | ⟨-, p, t, hp, ht, e1, e2⟩
  · exact .inl e
  · exact .inr ⟨⟨p, hp, e1⟩, t, ht, e2⟩
/-- copying a game -/
theorem x_copyG' {σ G : Sg} {k k1 r c B : Nat} (hd : k + 15 < k1 ∨ k1 + 15 < k) (h : GameOk σ k1 G r c) (g : GOk G r c B) : Ev (f_X3_copyFrom k k1 σ) (fun _ υ => Fr (k + 1) (k + 15) σ υ ∧ GameOk υ k G r c) := (x_copyG hd (h.bob g) h.2.1).mono (fun _ _ e => ⟨e.1, h.eq e.2⟩)
/-- the search's end depends on the sides alone -/
theorem fit_sd {ri dn ri' dn' pc tn : Nat → Int32} {r c p t q k : Nat} (h1 : 2 ≤ r ∧ r < 5) (h2 : 2 ≤ c ∧ c < 5) (hl : Lay pc tn (r * c) k) (hp : p < r * c) (hq : q < r * c) (hs : ∀ p, p < r * c → ∀ s, s < 4 → sdv ri' dn' r c p s = sdv ri dn r c p s) : fit ri' dn' pc tn r c p t q = fit ri dn pc tn r c p t q := by
  have hrc := rc16 h1 h2
  have m4 : ∀ n, n % 4 < 4 := fun n => Nat.mod_lt _ (by decide)
  unfold fit
  congr 1
  · unfold atRim
    have key : ∀ s, s < 4 → rimOk ri' dn' r c p t q s = rimOk ri dn r c p t q s := fun s _ => by
      unfold rimOk
      rw [hs p hp _ (m4 _)]
    simp only [List.range', List.all_cons, List.all_nil]
    rw [key 0 (by decide), key (0 + 1) (by decide), key (0 + 1 + 1) (by decide), key (0 + 1 + 1 + 1) (by decide)]
  · have key : ∀ s, s < 4 → nbOk ri' dn' pc tn r c p t q s = nbOk ri dn pc tn r c p t q s := by
      intro s hs4
      unfold nbOk
      cases hn : bs r c q s with
      | none => rfl
      | some o =>
        show (decide (pc o < 0) || decide (pc o = nI p) || _) = (decide (pc o < 0) || decide (pc o = nI p) || _)
        have ho := bs_lt h1 h2 hq hs4 hn
        rcases Nat.lt_or_ge o k with u | u
        · obtain ⟨p', t', hp', ht', e1, e2⟩ := hl.1 o u
          rw [hs p hp _ (m4 _), e1, nI_clamp (by omega), hs p' hp' _ (m4 _)]
        · simp only [hl.2 o u (by omega), show decide ((-1 : Int32) < 0) = true from by decide, Bool.true_or]
    simp only [List.range', List.all_cons, List.all_nil]
    rw [key 0 (by decide), key (0 + 1) (by decide), key (0 + 1 + 1) (by decide), key (0 + 1 + 1 + 1) (by decide)]
theorem sr_c_cg {go go' : Nat → Nat → SS → SS} {fr : Nat → Bool} {ft ft' : Nat → Nat → Bool} {M : Nat} (hg : ∀ p t s, p < M → t < 4 → go' p t s = go p t s) (hf : ∀ p t, p < M → t < 4 → ft' p t = ft p t) : ∀ (m n : Nat) (s : SS), m + n ≤ 4 * M → sr_c go' fr ft' m n s = sr_c go fr ft m n s
  | 0, _, _, _ => rfl
  | m + 1, n, s, h => by
    rw [sr_c, sr_c, hg (n / 4) (n % 4) _ (by omega) (by omega), hf (n / 4) (n % 4) (by omega) (by omega)]
    exact sr_c_cg hg hf m (n + 1) _ (by omega)
theorem sr_cg {ri dn ri' dn' : Nat → Int32} {r c : Nat} (h1 : 2 ≤ r ∧ r < 5) (h2 : 2 ≤ c ∧ c < 5) (hs : ∀ p, p < r * c → ∀ s, s < 4 → sdv ri' dn' r c p s = sdv ri dn r c p s) : ∀ (d : Nat) (pc tn : Nat → Int32) (s : SS), d ≤ r * c → Lay pc tn (r * c) (r * c - d) → sr ri' dn' r c d pc tn s = sr ri dn r c d pc tn s
  | 0, _, _, _, _, _ => rfl
  | d + 1, pc, tn, s, hd, hl => by
    rw [sr, sr]
    refine sr_c_cg (M := r * c) (fun p t s' hp ht => ?_) (fun p t hp ht => ?_) _ _ _ (by omega)
    · refine sr_cg h1 h2 hs d _ _ s' (by omega) ?_
      have := hl.put hp ht
      rw [show r * c - (d + 1) + 1 = r * c - d by omega] at this
      exact this
    · exact fit_sd h1 h2 hl hp (by omega) hs
theorem allW_cg {ri dn ri' dn' : Nat → Int32} {r c : Nat} (h1 : 2 ≤ r ∧ r < 5) (h2 : 2 ≤ c ∧ c < 5) (e : ∀ q, q < 16 → ri' q = ri q ∧ dn' q = dn q) : allW ri' dn' r c = allW ri dn r c := sr_cg h1 h2 (fun p hp s hs => sdv_cg h1 h2 hp hs e) _ _ _ _ (Nat.le_refl _) ⟨fun o ho => by omega, fun o _ _ => rfl⟩
/-- what holds between class (σ) and reference (τ) after i calls -/
def Inv (i : Nat) (σ τ : Sg) : Prop := (∃ r c, GOk (gM τ) r c (60 * i) ∧ GameOk σ 1 (gM τ) r c ∧ (σ 59 2 = 0 ∨ (σ 59 2 = 1 ∧ Known σ 59 r c (gM τ 0) (gM τ 1)))) ∧ (τ 103 25 = σ 0 11 ∧ (σ 0 11 = 0 ∨ (σ 0 11 = 1 ∧ ∃ r c, GOk (gK τ 0) r c (60 * i) ∧ GameOk σ 33 (gK τ 0) r c))) ∧ (∃ n, n ≤ 64 ∧ τ 103 21 = nI n ∧ σ 55 1 = nI n ∧ ∀ j, j < n → ∃ b, b < 256 ∧ τ 115 j = nI b ∧ σ 56 j = nI b) ∧ (∃ n, n ≤ 16 ∧ τ 103 39 = nI n ∧ σ 57 1 = nI n ∧ ∀ j, j < n → σ 58 j = τ 126 j) ∧ ∀ j, j < 7 → σ 102 j = τ 104 j
/-- the class is as it was but for what is scratch -/
def Xs (σ υ : Sg) : Prop := ∀ a, a < 17 ∨ 33 ≤ a → a < 49 ∨ 55 ≤ a → a < 60 ∨ 66 ≤ a → a < 72 ∨ 102 ≤ a → υ a = σ a
/-- the reference is as it was but for what is scratch -/
def Ms (τ υ : Sg) : Prop := (υ 104 = τ 104 ∧ υ 115 = τ 115 ∧ υ 126 = τ 126) ∧ (υ 103 21 = τ 103 21 ∧ υ 103 25 = τ 103 25 ∧ υ 103 39 = τ 103 39) ∧ (∀ b, b < 200 → υ 121 b = τ 121 b) ∧ EqA (gM υ) (gM τ)
theorem Xs.refl {σ : Sg} : Xs σ σ := fun _ _ _ _ _ => rfl
theorem Xs.trans {σ υ φ : Sg} (h : Xs σ υ) (g : Xs υ φ) : Xs σ φ := fun a x y z w => (g a x y z w).trans (h a x y z w)
theorem Ms.refl {τ : Sg} : Ms τ τ := ⟨⟨rfl, rfl, rfl⟩, ⟨rfl, rfl, rfl⟩, fun _ _ => rfl, EqA.refl⟩
theorem gK_cg {τ υ : Sg} (h : ∀ b, b < 200 → υ 121 b = τ 121 b) : EqA (gK υ 0) (gK τ 0) := by
  refine ⟨fun j hj i hi => ?_, fun j hj hj2 i hi => ?_, fun i hi => ?_⟩
  · unfold gK; rw [if_pos hj]; exact h _ (by omega)
  · unfold gK; rw [if_neg (by omega), if_pos hj2]; exact h _ (by omega)
  · unfold gK; exact h _ (by show 200 * 0 + (130 + i) < 200; omega)
theorem Inv.sc {i : Nat} {σ σ' τ τ' : Sg} (h : Inv i σ τ) (hX : Xs σ σ') (hM : Ms τ τ') : Inv i σ' τ' := by
  obtain ⟨⟨r, c, g1, g2, g3⟩, ⟨i1, i2⟩, ⟨n, t1, t2, t3, t4⟩, ⟨m, d1, d2, d3, d4⟩, rf⟩ := h
  obtain ⟨⟨a1, a2, a3⟩, ⟨b1, b2, b3⟩, b4, b5⟩ := hM
  have x : ∀ a, a < 17 ∨ 33 ≤ a → a < 49 ∨ 55 ≤ a → a < 60 ∨ 66 ≤ a → a < 72 ∨ 102 ≤ a → σ' a = σ a := hX
  have hrc := g1.rc
  refine ⟨⟨r, c, g1.cg b5, (g2.cg b5).fr (fun j h1 h2 => x _ (by omega) (by omega) (by omega) (by omega)), ?_⟩, ⟨?_, ?_⟩, ⟨n, t1, by rw [b1, t2], by rw [x 55 (by decide) (by decide) (by decide) (by decide), t3], fun j hj => ?_⟩, ⟨m, d1, by rw [b3, d2], by rw [x 57 (by decide) (by decide) (by decide) (by decide), d3], fun j hj => ?_⟩, fun j hj => ?_⟩
  · rw [x 59 (by decide) (by decide) (by decide) (by decide)]
    rcases g3 with e | ⟨e, k⟩
    · exact .inl e
    · refine .inr ⟨e, ?_⟩
      unfold Known CS
      rw [allW_cg g1.1.2.2.1 g1.1.2.2.2 (fun q hq => ⟨b5.1 0 (by decide) q hq, b5.1 1 (by decide) q hq⟩), x 59 (by decide) (by decide) (by decide) (by decide), x (59 + 8) (by decide) (by decide) (by decide) (by decide), x (59 + 9) (by decide) (by decide) (by decide) (by decide)]
      exact k
  · rw [b2, x 0 (by decide) (by decide) (by decide) (by decide), i1]
  · rw [x 0 (by decide) (by decide) (by decide) (by decide)]
    rcases i2 with e | ⟨e, r', c', k1, k2⟩
    · exact .inl e
    · exact .inr ⟨e, r', c', k1.cg (gK_cg b4), (k2.cg (gK_cg b4)).fr (fun j h1 h2 => x _ (by omega) (by omega) (by omega) (by omega))⟩
  · rw [a2, x 56 (by decide) (by decide) (by decide) (by decide)]; exact t4 j hj
  · rw [a3, x 58 (by decide) (by decide) (by decide) (by decide)]; exact d4 j hj
  · rw [a1, x 102 (by decide) (by decide) (by decide) (by decide)]; exact rf j hj
theorem Inv.mono {i i' : Nat} {σ τ : Sg} (h : Inv i σ τ) (hi : i ≤ i') : Inv i' σ τ := by
  obtain ⟨⟨r, c, g1, g2, g3⟩, ⟨i1, i2⟩, h3⟩ := h
  refine ⟨⟨r, c, g1.mono (by omega), g2, g3⟩, ⟨i1, ?_⟩, h3⟩
  rcases i2 with e | ⟨e, r', c', k1, k2⟩
  · exact .inl e
  · exact .inr ⟨e, r', c', k1.mono (by omega), k2⟩
