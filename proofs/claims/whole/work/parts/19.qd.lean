section API3
variable {Tt Td Tm : Gp} {τ : TD}
theorem r_person (Te : Gp) (ht : CT Tt τ) (hm : RT Tm τ) {d : Nat} (h : DR d Td Tm) (x1 x2 x3 : Int32) : ∃ r, fX10_person Te Td Tt x1 x2 x3 = some r ∧ fX11_person Tm x1 x2 x3 = some r := by
  have hN := ht.1.1
  have hH := ht.1.2.1
  obtain ⟨δ, ν, a, b, m0, m1, hdd⟩ := h
  have t1 : Tt 0 1 = nI (tH τ) := ht.2.2.1
  have t2 : Tm 0 7 = nI (tH τ) := hm.2.2.1
  unfold fX10_person fX11_person
  simp only [lit, c_isPerson Te ht, m_isValley, m_isPair hm, bd1_s, bI_0, t1, t2, e_add]
  cases h1 : ok x1 2
  · exact ⟨_, by simp; rfl, by simp⟩
  cases h2 : ok x2 (tN τ)
  · exact ⟨_, by simp; rfl, by simp⟩
  obtain ⟨v, hv, rfl⟩ := ok_ex h1 (by omega)
  obtain ⟨p, hp, rfl⟩ := ok_ex h2 (by omega)
  have q1 : (ix (nI (3 + 6 * v + p)) 261) = True := by rw [e_ix (by omega)]; exact eq_true (by omega)
  have q2 : (ix (nI (15 + 6 * v + p)) 261) = True := by rw [e_ix (by omega)]; exact eq_true (by omega)
  have z1 := cl_nI (show 3 + 6 * v + p < 2 ^ 31 by omega)
  have z2 := cl_nI (show 15 + 6 * v + p < 2 ^ 31 by omega)
  have g1 := m1.2.1 (6 * v + p) (by omega)
  have g2 := m1.2.2 (6 * v + p) (by omega)
  rw [show 0 + 3 + (6 * v + p) = 3 + 6 * v + p by omega] at g1
  rw [show 0 + 15 + (6 * v + p) = 15 + 6 * v + p by omega] at g2
  have c1 := b.2.1 (6 * v + p) (by omega)
  have c2 := b.2.2 (6 * v + p) (by omega)
  have f1 : fX0_faultsOf Td (nI v) (nI p) = some (ν.2.1 (6 * v + p)) := by
    unfold fX0_faultsOf fX10_personIndex
    simp only [lit, bd1_s, e_add, e_mul]
    rw [show (11 : Nat) = 12 - 1 from rfl, within_ok (by omega) (by omega), ok_nI (by omega) (by omega)]
    simp (disch := omega) only [bd1_s, bI_t, e_eq, e_ix, cl_nI]
    rw [if_neg (by omega), if_pos (by omega), show v * 6 + p = 6 * v + p by omega, c1]
  have f2 : fX0_owedBy Td (nI v) (nI p) = some (ν.2.2 (6 * v + p)) := by
    unfold fX0_owedBy fX10_personIndex
    simp only [lit, bd1_s, e_add, e_mul]
    rw [show (11 : Nat) = 12 - 1 from rfl, within_ok (by omega) (by omega), ok_nI (by omega) (by omega)]
    simp (disch := omega) only [bd1_s, bI_t, e_eq, e_ix, cl_nI]
    rw [if_neg (by omega), if_pos (by omega), show v * 6 + p = 6 * v + p by omega, c2]
  simp only [f1, f2, bd1_s, e_mul, e_add, q1, q2, z1, z2, g1, g2, if_true]
  simp only [Bool.and_self, Bool.true_eq_false, if_false]
  by_cases e0 : x3 = nI 0
  · simp only [e0, if_true]; exact ⟨_, rfl, rfl⟩
  by_cases e1 : x3 = nI 1
  · have h10 : (nI 1 = nI 0) = False := by rw [e_eq (by omega) (by omega)]; exact eq_false (by omega)
    simp only [e1, h10, if_true, if_false]
    exact ⟨_, rfl, rfl⟩
  simp only [e0, e1, if_false]
  have hs : nI (10 + tH τ) - nI 1 = nI (9 + tH τ) := by rw [e_sub (by omega)]; congr 1; omega
  rw [hs, within_eq, in_eq]
  have i1 : (10 : Int64).toInt = 10 := by decide
  have i2 : (nI (9 + tH τ)).toInt64.toInt = 9 + tH τ := by rw [Int32.toInt_toInt64, nI_toInt (by omega)]; omega
  rw [i1, i2, nI_toInt (show 10 < 2 ^ 31 by omega), nI_toInt (show 9 + tH τ < 2 ^ 31 by omega)]
  have i3 : (decide ((10 : Nat) ≤ x3.toInt ∧ x3.toInt ≤ ((9 + tH τ : Nat) : Int))) = decide ((10 : Int) ≤ x3.toInt ∧ x3.toInt ≤ 9 + (tH τ : Int)) := by
    apply decide_eq_decide.mpr
    omega
  rw [i3]
  simp only [bd1_s, bI_0]
  cases hx : decide ((10 : Int) ≤ x3.toInt ∧ x3.toInt ≤ 9 + (tH τ : Int))
  · exact ⟨_, by simp; rfl, by simp⟩
  · have hx1 := of_decide_eq_true hx
    obtain ⟨j, hj, rfl⟩ := ok_ex (x := x3) (n := 20) (decide_eq_true ⟨by omega, by omega⟩) (by omega)
    rw [nI_toInt (by omega)] at hx1
    rw [e_sub (by omega)]
    have k1 := c_workOf ht a hv hp (show j - 10 < 4 by omega)
    have k2 := m_does hm m0 hv hp (show j - 10 < 4 by omega)
    rw [if_neg (by simp), if_neg (by simp), k1, k2]
    exact ⟨_, rfl, rfl⟩
theorem r_breaches (Te : Gp) (ht : CT Tt τ) (hm : RT Tm τ) {d : Nat} (h : DR d Td Tm) (x : Int32) : ∃ r, fX10_breaches Te Td Tt x = some r ∧ fX11_breaches Tm x = some r := by
  have hN := ht.1.1
  have hH := ht.1.2.1
  obtain ⟨δ, ν, a, b, m0, m1, hdd⟩ := h
  have t1 : Tt 0 1 = nI (tH τ) := ht.2.2.1
  have t2 : Tm 0 7 = nI (tH τ) := hm.2.2.1
  unfold fX10_breaches fX11_breaches
  simp only [lit, c_hasPair ht, m_isPair hm, bd1_s, bI_0]
  cases h2 : ok x (tN τ)
  · exact ⟨_, by simp; rfl, by simp⟩
  obtain ⟨p, hp, rfl⟩ := ok_ex h2 (by omega)
  rw [if_neg (by simp), if_neg (by simp)]
  have lp : ∀ (k hr n m : Nat) (x2 : Int32), hr + k = tH τ → k < n → k < m → ∃ r, lX10_breaches_18 Te Td Tt n (nI p) x2 (nI hr) = some r ∧ lX11_breaches_15 Tm m (nI p) x2 (nI hr) = some r := by
    intro k
    induction k with
    | zero =>
      intro hr n m x2 hk hn hm'
      obtain ⟨n, rfl, -⟩ := gt_s hn
      obtain ⟨m, rfl, -⟩ := gt_s hm'
      rw [sX10_breaches_18, sX11_breaches_15]
      unfold fX10_breaches_18 fX11_breaches_15
      rw [t1, t2, if_pos (by rw [e_le (by omega) (by omega)]; omega), if_pos (by rw [e_le (by omega) (by omega)]; omega)]
      exact ⟨_, rfl, rfl⟩
    | succ k ih =>
      intro hr n m x2 hk hn hm'
      obtain ⟨n, rfl, hn2⟩ := gt_s hn
      obtain ⟨m, rfl, hm2⟩ := gt_s hm'
      have k1 := c_isBreach ht a hp (show hr < 4 by omega)
      have k2 := m_isBreach hm m0 hp (show hr < 4 by omega)
      rw [sX10_breaches_18, sX11_breaches_15]
      unfold fX10_breaches_18 fX11_breaches_15
      rw [t1, t2, if_neg (by rw [e_le (by omega) (by omega)]; omega), if_neg (by rw [e_le (by omega) (by omega)]; omega), k1, k2]
      simp only [lit, bd1_s, bI_0, e_add]
      have ho : x2 ||| nI 0 = x2 := Int32.or_zero
      rw [ho]
      cases breach τ δ p hr
      · exact ih (hr + 1) n m x2 (by omega) (by omega) (by omega)
      · rw [if_neg (by simp), if_neg (by simp)]
        exact ih (hr + 1) n m _ (by omega) (by omega) (by omega)
  exact lp (tH τ) 0 fu fu (nI 0) (by omega) (fu_gt (by omega)) (fu_gt (by omega))
theorem m_as98 {δ : DA} {ν : VV} (m1 : M1 Tm 0 ν) {p : Nat} (hp : p < 6) (b : Bool) : fX11_as_98 Tm (nI p) (bI b) = if b = true then some (ν.2.1 p + ν.2.1 (6 + p)) else some (-nI 4) := by
  have g1 := m1.2.1 p (by omega)
  have g2 := m1.2.1 (6 + p) (by omega)
  rw [show 0 + 3 + p = 3 + p by omega] at g1
  rw [show 0 + 3 + (6 + p) = 9 + p by omega] at g2
  unfold fX11_as_98
  simp only [lit, bI_0, e_add]
  have q1 : (ix (nI (3 + p)) 261) = True := by rw [e_ix (by omega)]; exact eq_true (by omega)
  have q2 : (ix (nI (9 + p)) 261) = True := by rw [e_ix (by omega)]; exact eq_true (by omega)
  have z1 := cl_nI (show 3 + p < 2 ^ 31 by omega)
  have z2 := cl_nI (show 9 + p < 2 ^ 31 by omega)
  simp only [q1, q2, z1, z2, g1, g2]
  cases b <;> simp
theorem m_as83 {p j k : Nat} (hj : j < 7) (hk : k < 4) : fX11_as_83 Tm (nI p) (nI j) (nI k) = fX11_as_98 Tm (nI p) (bI (decide (j = 5) && decide (k = 2))) := by
  unfold fX11_as_83 fX11_as_93 fX11_as_97
  simp only [lit]
  simp only [e_eq (show j < 2 ^ 31 by omega) (show 5 < 2 ^ 31 by omega), e_eq (show k < 2 ^ 31 by omega) (show 2 < 2 ^ 31 by omega)]
  rw [← bI_t, ← bI_f]
  by_cases a : j = 5 <;> by_cases b : k = 2 <;> simp [a, b]
theorem m_as73 {p j k : Nat} (hj : j < 7) (hk : k < 4) : fX11_as_73 Tm (nI p) (nI j) (nI k) = fX11_as_98 Tm (nI p) (bI ((decide (j = 4) && decide (k = 1)) || (decide (j = 5) && decide (k = 2)))) := by
  unfold fX11_as_73 fX11_as_93
  simp only [lit, m_as83 hj hk]
  simp only [e_eq (show j < 2 ^ 31 by omega) (show 4 < 2 ^ 31 by omega), e_eq (show k < 2 ^ 31 by omega) (show 1 < 2 ^ 31 by omega)]
  rw [← bI_t]
  by_cases a : j = 4 <;> by_cases b : k = 1 <;> simp [a, b]
theorem m_as63 {p j k : Nat} (hj : j < 7) (hk : k < 4) : fX11_as_63 Tm (nI p) (nI j) (nI k) = fX11_as_98 Tm (nI p) (bI ((decide (j = 3) && decide (k < 2)) || (decide (j = 4) && decide (k = 1)) || (decide (j = 5) && decide (k = 2)))) := by
  unfold fX11_as_63 fX11_as_93
  simp only [lit, m_as73 hj hk]
  simp only [e_eq (show j < 2 ^ 31 by omega) (show 3 < 2 ^ 31 by omega), e_lt (show k < 2 ^ 31 by omega) (show 2 < 2 ^ 31 by omega)]
  rw [← bI_t]
  by_cases a : j = 3 <;> by_cases b : k < 2 <;> simp [a, b]
theorem m_as47 {p j k : Nat} (hj : j < 7) (hk : k < 4) : fX11_as_47 Tm (nI p) (nI j) (nI k) = fX11_as_98 Tm (nI p) (bI (((decide (j = 2) || decide (j = 6)) && decide (k = 3)) || (decide (j = 3) && decide (k < 2)) || (decide (j = 4) && decide (k = 1)) || (decide (j = 5) && decide (k = 2)))) := by
  unfold fX11_as_47 fX11_as_58 fX11_as_93
  simp only [lit, m_as63 hj hk]
  simp only [e_eq (show j < 2 ^ 31 by omega) (show 2 < 2 ^ 31 by omega), e_eq (show j < 2 ^ 31 by omega) (show 6 < 2 ^ 31 by omega), e_eq (show k < 2 ^ 31 by omega) (show 3 < 2 ^ 31 by omega)]
  rw [← bI_t]
  by_cases a : j = 2 <;> by_cases c : j = 6 <;> by_cases b : k = 3 <;> simp [a, b, c]
theorem r_as (Te : Gp) (ht : CT Tt τ) (hm : RT Tm τ) {d : Nat} (h : DR d Td Tm) (x1 x2 : Int32) : ∃ r, fX10_as Te Td Tt x1 x2 = some r ∧ fX11_as Tm x1 x2 = some r := by
  have hN := ht.1.1
  obtain ⟨δ, ν, a, b, m0, m1, hdd⟩ := h
  unfold fX10_as fX11_as
  simp only [lit, c_hasPair ht, m_isPair hm, bd1_s, bI_0]
  rw [show nI 7 - nI 1 = nI 6 from rfl, w_7, n_7]
  cases h1 : ok x1 (tN τ)
  · exact ⟨_, by simp; rfl, by simp⟩
  simp only [bd1_s, bI_0]
  cases h2 : ok x2 7
  · exact ⟨_, by simp; rfl, by simp⟩
  obtain ⟨p, hp, rfl⟩ := ok_ex h1 (by omega)
  obtain ⟨j, hj, rfl⟩ := ok_ex h2 (by omega)
  have hk := ht.1.2.2.2.2.1 p
  have k1 := c_kindOf ht hp
  have k2 := c_isSuch ⟨kd τ p, hk⟩ ⟨j, hj⟩
  have mk := hm.2.2.2.2.2.1 p (by omega)
  have c1 := b.2.1 p (by omega)
  have c2 := b.2.1 (6 + p) (by omega)
  have f1 : ∀ v i, v < 2 → i = 6 * v + p → fX0_faultsOf Td (nI v) (nI p) = some (ν.2.1 i) := by
    intro v i hv e
    unfold fX0_faultsOf fX10_personIndex
    simp only [lit, bd1_s, e_add, e_mul]
    rw [show (11 : Nat) = 12 - 1 from rfl, within_ok (by omega) (by omega), ok_nI (by omega) (by omega)]
    simp (disch := omega) only [bd1_s, bI_t, e_eq, e_ix, cl_nI]
    rw [if_neg (by omega), if_pos (by omega), show v * 6 + p = i by omega, b.2.1 i (by omega)]
  have f10 := f1 0 p (by omega) (by omega)
  have f11 := f1 1 (6 + p) (by omega) (by omega)
  have q1 : (ix (nI p) 6) = True := by rw [e_ix (by omega)]; exact eq_true (by omega)
  refine ⟨if su (kd τ p) j = true then ν.2.1 p + ν.2.1 (6 + p) else -nI 4, ?_, ?_⟩
  · simp only [k1, k2, bd1_s, bI_0, f10, f11]
    cases su (kd τ p) j <;> simp
  · simp only [q1]
    rw [cl_nI (show p < 2 ^ 31 by omega), mk]
    unfold fX11_as_93
    simp only [lit, m_as47 hj hk]
    simp only [e_eq (show j < 2 ^ 31 by omega) (show 0 < 2 ^ 31 by omega), e_eq (show j < 2 ^ 31 by omega) (show 1 < 2 ^ 31 by omega), e_lt (show kd τ p < 2 ^ 31 by omega) (show 3 < 2 ^ 31 by omega)]
    rw [← bI_t]
    simp only [m_as98 (δ := δ) m1 (show p < 6 by omega)]
    have hk4 : kd τ p = 0 ∨ kd τ p = 1 ∨ kd τ p = 2 ∨ kd τ p = 3 := by omega
    have hj7 : j = 0 ∨ j = 1 ∨ j = 2 ∨ j = 3 ∨ j = 4 ∨ j = 5 ∨ j = 6 := by omega
    rcases hk4 with e | e | e | e <;> rcases hj7 with rfl | rfl | rfl | rfl | rfl | rfl | rfl <;> simp [e, su]
end API3
