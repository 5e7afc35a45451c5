/-! the reference's passes: an array is kept, an array is brought back -/
/-- s places of the array a are kept from place cur on -/
def svd (τ : Sg) (k a s cur : Nat) : Sg := fun x y => if x = k + 18 ∧ cur ≤ y ∧ y < cur + s then τ a (y - cur) else if x = k ∧ y = 27 then nI (cur + s) else τ x y
theorem svd_0 {τ : Sg} {k a cur : Nat} (hc : τ k 27 = nI cur) : svd τ k a 0 cur = τ := by
  funext x y
  unfold svd
  rw [if_neg (by omega)]
  by_cases h : x = k ∧ y = 27
  · rw [if_pos h, h.1, h.2, hc]; rfl
  · rw [if_neg h]
theorem svd_s {τ : Sg} {k a s cur : Nat} : sg_up (sg_up (svd τ k a s cur) (k + 18) (cur + s) (τ a s)) k 27 (nI (cur + (s + 1))) = svd τ k a (s + 1) cur := by
  funext x y
  unfold sg_up svd
  by_cases h1 : x = k ∧ y = 27
  · obtain ⟨rfl, rfl⟩ := h1
    rw [if_pos ⟨rfl, rfl⟩, if_neg (by omega), if_pos ⟨rfl, rfl⟩]
  · rw [if_neg h1, if_neg h1, if_neg h1]
    by_cases h2 : x = k + 18 ∧ y = cur + s
    · obtain ⟨rfl, rfl⟩ := h2
      rw [if_pos ⟨rfl, rfl⟩, if_pos (by omega), show cur + s - cur = s by omega]
    · rw [if_neg h2]
      by_cases h3 : x = k + 18 ∧ cur ≤ y ∧ y < cur + s
      · rw [if_pos h3, if_pos (by omega)]
      · rw [if_neg h3, if_neg (by omega)]
theorem e_keep_b2 {τ : Sg} {k a m cur : Nat} (h26 : τ k 26 = 1) (hm : m < 100) (hb : cur + m ≤ 500) (ha : a ≠ k + 18 ∧ a ≠ k) : ∀ (n s : Nat), s ≤ m → m - s < n → Ev (f_X11_passes_b2 k a m n (nI s) (svd τ k a s cur)) (fun _ υ => υ = svd τ k a m cur)
  | 0, s, _, h => absurd h (Nat.not_lt_zero _)
  | n + 1, s, hs, h => by
    rw [f_X11_passes_b2]
    refine Ev.ite (fun h4 => Ev.ret ?_) (fun h4 => ?_)
    · have : m ≤ s := (nI_leI (a := m) (b := s) (by omega) (by omega)).mp h4
      rw [show s = m by omega]
    · have h5 : s < m := nI_lem (by omega) (by omega) h4
      have e26 : svd τ k a s cur k 26 = 1 := by
        unfold svd
        rw [if_neg (by omega), if_neg (by omega), h26]
      have e27 : svd τ k a s cur k 27 = nI (cur + s) := by
        unfold svd
        rw [if_neg (by omega), if_pos ⟨rfl, rfl⟩]
      have ea : svd τ k a s cur a s = τ a s := by
        unfold svd
        rw [if_neg (fun q => ha.1 q.1), if_neg (fun q => ha.2 q.1)]
      refine Ev.ite (fun e => absurd (e26.symm.trans e) (by decide)) (fun _ => ?_)
      refine Ev.rd (ix_nI h5 (by omega)) ?_
      rw [nI_clamp (by omega), ea, e27]
      refine Ev.wr (ix_nI (by omega) (by decide)) ?_
      rw [nI_clamp (by omega)]
      unfold f_X11_passes_b42
      refine Ev.put ?_
      have e9 : sg_up (svd τ k a s cur) (k + 18) (cur + s) (τ a s) k 27 = nI (cur + s) := by
        rw [up_n (by omega), e27]
      rw [e9, nI_1, nI_1, Nat.add_assoc, svd_s]
      exact e_keep_b2 h26 hm hb ha n (s + 1) (by omega) (by omega)
theorem e_keep {τ : Sg} {k a m cur : Nat} (h26 : τ k 26 = 1) (h27 : τ k 27 = nI cur) (hm : m < 100) (hb : cur + m ≤ 500) (ha : a ≠ k + 18 ∧ a ≠ k) : Ev (f_X11_passes k a m τ) (fun _ υ => υ = svd τ k a m cur) := by
  have h := e_keep_b2 h26 hm hb ha fu 0 (Nat.zero_le _) (by unfold fu; omega)
  rw [svd_0 h27] at h
  exact h
/-- s places of the array a are brought back from place cur on -/
def rst (τ : Sg) (k a s cur : Nat) : Sg := fun x y => if x = a ∧ y < s then τ (k + 18) (cur + y) else if x = k ∧ y = 27 then nI (cur + s) else τ x y
theorem rst_0 {τ : Sg} {k a cur : Nat} (hc : τ k 27 = nI cur) : rst τ k a 0 cur = τ := by
  funext x y
  unfold rst
  rw [if_neg (by omega)]
  by_cases h : x = k ∧ y = 27
  · rw [if_pos h, h.1, h.2, hc]; rfl
  · rw [if_neg h]
theorem rst_s {τ : Sg} {k a s cur : Nat} (ha : a ≠ k) : sg_up (sg_up (rst τ k a s cur) a s (τ (k + 18) (cur + s))) k 27 (nI (cur + (s + 1))) = rst τ k a (s + 1) cur := by
  funext x y
  unfold sg_up rst
  by_cases h1 : x = k ∧ y = 27
  · obtain ⟨rfl, rfl⟩ := h1
    rw [if_pos ⟨rfl, rfl⟩, if_neg (fun q => ha q.1.symm), if_pos ⟨rfl, rfl⟩]
  · rw [if_neg h1, if_neg h1, if_neg h1]
    by_cases h2 : x = a ∧ y = s
    · obtain ⟨rfl, rfl⟩ := h2
      rw [if_pos ⟨rfl, rfl⟩, if_pos (by omega)]
    · rw [if_neg h2]
      by_cases h3 : x = a ∧ y < s
      · rw [if_pos h3, if_pos (by omega)]
      · rw [if_neg h3, if_neg (by omega)]
theorem e_back_b2 {τ : Sg} {k a m cur : Nat} (h26 : τ k 26 = 0) (hm : m < 100) (hb : cur + m ≤ 500) (ha : a ≠ k + 18 ∧ a ≠ k) : ∀ (n s : Nat), s ≤ m → m - s < n → Ev (f_X11_passes_b2 k a m n (nI s) (rst τ k a s cur)) (fun _ υ => υ = rst τ k a m cur)
  | 0, s, _, h => absurd h (Nat.not_lt_zero _)
  | n + 1, s, hs, h => by
    rw [f_X11_passes_b2]
    refine Ev.ite (fun h4 => Ev.ret ?_) (fun h4 => ?_)
    · have : m ≤ s := (nI_leI (a := m) (b := s) (by omega) (by omega)).mp h4
      rw [show s = m by omega]
    · have h5 : s < m := nI_lem (by omega) (by omega) h4
      have e26 : rst τ k a s cur k 26 = 0 := by
        unfold rst
        rw [if_neg (fun q => ha.2 q.1.symm), if_neg (by omega), h26]
      have e27 : rst τ k a s cur k 27 = nI (cur + s) := by
        unfold rst
        rw [if_neg (fun q => ha.2 q.1.symm), if_pos ⟨rfl, rfl⟩]
      have ek : rst τ k a s cur (k + 18) (cur + s) = τ (k + 18) (cur + s) := by
        unfold rst
        rw [if_neg (fun q => ha.1 q.1.symm), if_neg (by omega)]
      refine Ev.ite (fun _ => ?_) (fun e => absurd e26 e)
      rw [e27]
      refine Ev.rd (ix_nI (by omega) (by decide)) ?_
      rw [nI_clamp (by omega), ek]
      refine Ev.wr (ix_nI h5 (by omega)) ?_
      rw [nI_clamp (by omega)]
      unfold f_X11_passes_b42
      refine Ev.put ?_
      have e9 : sg_up (rst τ k a s cur) a s (τ (k + 18) (cur + s)) k 27 = nI (cur + s) := by
        rw [up_n (fun q => ha.2 q.1.symm), e27]
      rw [e9, nI_1, nI_1, Nat.add_assoc, rst_s ha.2]
      exact e_back_b2 h26 hm hb ha n (s + 1) (by omega) (by omega)
theorem e_back {τ : Sg} {k a m cur : Nat} (h26 : τ k 26 = 0) (h27 : τ k 27 = nI cur) (hm : m < 100) (hb : cur + m ≤ 500) (ha : a ≠ k + 18 ∧ a ≠ k) : Ev (f_X11_passes k a m τ) (fun _ υ => υ = rst τ k a m cur) := by
  have h := e_back_b2 h26 hm hb ha fu 0 (Nat.zero_le _) (by unfold fu; omega)
  rw [rst_0 h27] at h
  exact h
