section DAYM
variable {Tt Td Tm : Gp} {τ : TD} {δ : DA} {ν : VV}
theorem m_fill : ∀ (k i n : Nat) (Tm : Gp), i + k = 87 → 39 ≤ i → k < n → ∃ Ta, lX11_day_190 n Tm (nI i) = some Ta ∧ FR Tm Ta ∧ (∀ j, j < i → Ta 1 j = Tm 1 j) ∧ ∀ j, i ≤ j → j < 87 → Ta 1 j = -nI 1 := by
  intro k
  induction k with
  | zero =>
    intro i n Tm hk hi hn
    obtain ⟨m, rfl, -⟩ := gt_s hn
    refine ⟨Tm, ?_, FR_r Tm, fun _ _ => rfl, fun j a b => by omega⟩
    rw [sX11_day_190]
    unfold fX11_day_190
    simp only [lit]
    exact if_pos (by rw [e_le (by omega) (by omega)]; omega)
  | succ k ih =>
    intro i n Tm hk hi hn
    obtain ⟨m, rfl, hm⟩ := gt_s hn
    obtain ⟨Ta, e, f, a, b⟩ := ih (i + 1) m (u2 Tm 1 i (-nI 1)) (by omega) (by omega) (by omega)
    refine ⟨Ta, ?_, FR_t (FR_u (by omega)) f, fun j hj => ?_, fun j h1 h2 => ?_⟩
    · rw [sX11_day_190]
      unfold fX11_day_190
      have q1 : (nI 87 ≤ nI i) = False := by rw [e_le (by omega) (by omega)]; exact eq_false (by omega)
      have q2 : (ix (nI i) 261) = True := by rw [e_ix (by omega)]; exact eq_true (by omega)
      simp only [m1_eq]
      simp only [lit, q1, q2, if_true, if_false, e_add]
      rw [cl_nI (show i < 2 ^ 31 by omega)]
      exact e
    · rw [a j (by omega), u2_ap, if_neg (by omega)]
    · by_cases h : j = i
      · rw [a j (by omega), u2_ap, if_pos ⟨rfl, h⟩]
      · exact b j (by omega) h2
theorem m_pairs (hd : dT δ + 1 < 2 ^ 20) : ∀ (k p n : Nat) (Tm : Gp) (ν : VV), RT Tm τ → p + k = tN τ → k < n → M0 Tm 0 δ → M1 Tm 0 ν → ∃ Ta, lX11_day_2 n Tm (nI p) = some Ta ∧ FR Tm Ta ∧ M0 Ta 0 (nextD δ) ∧ M1 Ta 0 (pR τ δ k p ν) := by
  intro k
  induction k with
  | zero =>
    intro p n Tm ν ht hk hn h g
    have hN := ht.1.1
    have h1 : Tm 0 6 = nI (tN τ) := ht.2.1
    obtain ⟨m, rfl, -⟩ := gt_s hn
    rw [sX11_day_2]
    unfold fX11_day_2
    rw [h1, if_pos (by rw [e_le (by omega) (by omega)]; omega)]
    simp only [lit]
    have h0 : Tm 1 0 = nI (dT δ) := h.2.1
    rw [show (nI 0).toNatClampNeg = 0 from rfl, h0, e_add]
    obtain ⟨Ta, e, f, a, b⟩ := m_fill 48 39 fu (u2 Tm 1 0 (nI (dT δ + 1))) (by omega) (by omega) (fu_gt (by omega))
    refine ⟨Ta, e, FR_t (FR_u (by omega)) f, ⟨DW_next h.1 hd, ?_, fun i hi => ?_, fun i hi => ?_⟩, fun j hj => ?_, fun j hj => ?_, fun j hj => ?_⟩
    · rw [a 0 (by omega), u2_same]; rfl
    · rw [a _ (by omega), u2_ap, if_neg (by omega)]; exact h.2.2.1 i hi
    · rw [b _ (by omega) (by omega)]; rfl
    · rw [a _ (by omega), u2_ap, if_neg (by omega)]; exact g.1 j hj
    · rw [a _ (by omega), u2_ap, if_neg (by omega)]; exact g.2.1 j hj
    · rw [a _ (by omega), u2_ap, if_neg (by omega)]; exact g.2.2 j hj
  | succ k ih =>
    intro p n Tm ν ht hk hn h g
    have hN := ht.1.1
    have hH := ht.1.2.1
    have h1 : Tm 0 6 = nI (tN τ) := ht.2.1
    obtain ⟨m, rfl, hm⟩ := gt_s hn
    obtain ⟨T1, e1, f1, a1, b1⟩ := m_hours (lX11_day_2 m) (show p < tN τ by omega) (tH τ) 0 fu Tm ν ht (by omega) (fu_gt (by omega)) h g
    rw [sX11_day_2]
    unfold fX11_day_2
    rw [h1, if_neg (by rw [e_le (by omega) (by omega)]; omega)]
    simp only [lit]
    rw [e1]
    obtain ⟨T2, e2, f2, a2, b2⟩ := ih (p + 1) m T1 _ (RT_F ht f1) (by omega) (by omega) a1 b1
    exact ⟨T2, e2, FR_t f1 f2, a2, b2⟩
theorem m_day (ht : RT Tm τ) (h : M0 Tm 0 δ) (g : M1 Tm 0 ν) (hd : dT δ + 1 < 2 ^ 20) : ∃ Ta, fX11_day Tm = some Ta ∧ FR Tm Ta ∧ M0 Ta 0 (nextD δ) ∧ M1 Ta 0 (nextV τ δ ν) := by
  have hN := ht.1.1
  unfold fX11_day
  simp only [lit]
  have := m_pairs hd (tN τ) 0 fu Tm ν ht (by omega) (fu_gt (by omega)) h g
  rw [pR_next] at this
  exact this
end DAYM
/-- k days on -/
def daysS (τ : TD) : Nat → DA × VV → DA × VV
  | 0, s => s
  | k + 1, s => daysS τ k (nextD s.1, nextV τ s.1 s.2)
theorem daysS_dT (τ : TD) : ∀ k s, dT (daysS τ k s).1 = dT s.1 + k := by
  intro k
  induction k with
  | zero => intro s; rfl
  | succ k ih => intro s; show dT (daysS τ k (nextD s.1, nextV τ s.1 s.2)).1 = _; rw [ih]; show dT s.1 + 1 + k = _; omega
section DAYS2
variable {Tt : Gp} {τ : TD}
theorem c_days (Te : Gp) (ht : CT Tt τ) (m : Nat) (hm : m < 2 ^ 31) : ∀ (k j n : Nat) (Td : Gp) (δ : DA) (ν : VV), j + k = m → k < n → dT δ + k < 2 ^ 20 → C0 Td δ → C1 Td ν → ∃ Ta, lX10_days_15 Te Tt n Td (nI m) (nI j) = some (nI (dT δ + k), Ta) ∧ C0 Ta (daysS τ k (δ, ν)).1 ∧ C1 Ta (daysS τ k (δ, ν)).2 := by
  intro k
  induction k with
  | zero =>
    intro j n Td δ ν hk hn hd h g
    obtain ⟨i, rfl, -⟩ := gt_s hn
    refine ⟨Td, ?_, h, g⟩
    rw [sX10_days_15]
    unfold fX10_days_15
    rw [if_pos (by rw [e_le (by omega) (by omega)]; omega), h.2.1]
    rfl
  | succ k ih =>
    intro j n Td δ ν hk hn hd h g
    obtain ⟨i, rfl, hi⟩ := gt_s hn
    obtain ⟨T1, e1, a1, b1⟩ := c_passOne ht h g (by omega)
    obtain ⟨T2, e2, a2, b2⟩ := ih (j + 1) i T1 (nextD δ) (nextV τ δ ν) (by omega) (by omega) (by show dT δ + 1 + k < _; omega) a1 b1
    refine ⟨T2, ?_, a2, b2⟩
    rw [sX10_days_15]
    unfold fX10_days_15
    rw [if_neg (by rw [e_le (by omega) (by omega)]; omega), e1]
    simp only [lit, bd1_s, e_add]
    rw [e2]
    show some (nI (dT δ + 1 + k), T2) = _
    rw [show dT δ + 1 + k = dT δ + (k + 1) by omega]
theorem m_days (m : Nat) (hm : m < 2 ^ 31) : ∀ (k j n : Nat) (Tm : Gp) (δ : DA) (ν : VV), RT Tm τ → j + k = m → k < n → dT δ + k < 2 ^ 20 → M0 Tm 0 δ → M1 Tm 0 ν → ∃ Ta, lX11_days_17 n Tm (nI m) (nI j) = some (nI (dT δ + k), Ta) ∧ FR Tm Ta ∧ M0 Ta 0 (daysS τ k (δ, ν)).1 ∧ M1 Ta 0 (daysS τ k (δ, ν)).2 := by
  intro k
  induction k with
  | zero =>
    intro j n Tm δ ν ht hk hn hd h g
    obtain ⟨i, rfl, -⟩ := gt_s hn
    refine ⟨Tm, ?_, FR_r Tm, h, g⟩
    rw [sX11_days_17]
    unfold fX11_days_17
    have h0 : Tm 1 0 = nI (dT δ) := h.2.1
    simp only [lit]
    rw [if_pos (by rw [e_le (by omega) (by omega)]; omega), show (nI 0).toNatClampNeg = 0 from rfl, h0]
    rfl
  | succ k ih =>
    intro j n Tm δ ν ht hk hn hd h g
    obtain ⟨i, rfl, hi⟩ := gt_s hn
    obtain ⟨T1, e1, f1, a1, b1⟩ := m_day ht h g (by omega)
    obtain ⟨T2, e2, f2, a2, b2⟩ := ih (j + 1) i T1 (nextD δ) (nextV τ δ ν) (RT_F ht f1) (by omega) (by omega) (by show dT δ + 1 + k < _; omega) a1 b1
    refine ⟨T2, ?_, FR_t f1 f2, a2, b2⟩
    rw [sX11_days_17]
    unfold fX11_days_17
    rw [if_neg (by rw [e_le (by omega) (by omega)]; omega), e1]
    simp only [lit, bd1_s, e_add]
    rw [e2]
    show some (nI (dT δ + 1 + k), T2) = _
    rw [show dT δ + 1 + k = dT δ + (k + 1) by omega]
end DAYS2
