/-- what texts told: pairs, hours, eats, fine; kinds, classes, what can be done, bread, worth, what is meant -/
abbrev TD : Type := (Nat × Nat × Nat × Nat) × (Nat → Nat) × (Nat → Nat) × (Nat → Nat → Bool) × (Nat → Nat → Nat) × (Nat → Nat) × (Nat → Nat)
def tN (τ : TD) : Nat := τ.1.1
def tH (τ : TD) : Nat := τ.1.2.1
def tE (τ : TD) : Nat := τ.1.2.2.1
def tF (τ : TD) : Nat := τ.1.2.2.2
def kd (τ : TD) : Nat → Nat := τ.2.1
def cl (τ : TD) : Nat → Nat := τ.2.2.1
def cn (τ : TD) : Nat → Nat → Bool := τ.2.2.2.1
def br (τ : TD) : Nat → Nat → Nat := τ.2.2.2.2.1
def wo (τ : TD) : Nat → Nat := τ.2.2.2.2.2.1
def mn (τ : TD) : Nat → Nat := τ.2.2.2.2.2.2
def TW (τ : TD) : Prop := (1 ≤ tN τ ∧ tN τ ≤ 6) ∧ (1 ≤ tH τ ∧ tH τ ≤ 4) ∧ tE τ ≤ 20 ∧ tF τ ≤ 99 ∧ (∀ p, kd τ p < 4) ∧ (∀ w, cl τ w < 5) ∧ cl τ 5 = 4 ∧ (∀ v, cn τ v 5 = true) ∧ (∀ v, br τ v 5 = 0) ∧ (∀ v w, br τ v w ≤ 20) ∧ wo τ 5 = 0 ∧ (∀ w, wo τ w ≤ 20) ∧ ∀ i, mn τ i ≤ 5
def bcell (τ : TD) (v w : Nat) : Int32 := if cn τ v w = true then nI (br τ v w) else -nI 1
def may (τ : TD) (v p hr w : Nat) : Bool := decide (w = 5) || (cn τ v w && !(decide (kd τ p = 1) && decide (cl τ w = 3)) && !(decide (kd τ p = 2) && decide (2 ≤ tH τ) && decide (hr + 1 = tH τ)))
def bm (τ : TD) (v p w : Nat) : Nat := if kd τ p = 2 then br τ v w / 2 else br τ v w
def kt (τ : TD) (odd p w1 w2 : Nat) : Bool := decide (kd τ p = 3) || (decide (cl τ w1 = cl τ w2) == decide (odd = 0))
/-- the class's own rows -/
def CT (Tt : Gp) (τ : TD) : Prop := TW τ ∧ Tt 0 0 = nI (tN τ) ∧ Tt 0 1 = nI (tH τ) ∧ Tt 0 2 = nI (tE τ) ∧ Tt 0 3 = nI (tF τ) ∧ (∀ i, i < 6 → Tt 1 i = nI (kd τ i)) ∧ (∀ w, w < 5 → Tt 2 w = nI (cl τ w)) ∧ (∀ v w, v < 2 → w < 5 → Tt 3 (v * 5 + w) = bcell τ v w) ∧ (∀ w, w < 5 → Tt 4 w = nI (wo τ w)) ∧ ∀ i, i < 96 → Tt 5 i = nI (mn τ i)
/-- the reference's rows -/
def RT (Tm : Gp) (τ : TD) : Prop := TW τ ∧ Tm 0 6 = nI (tN τ) ∧ Tm 0 7 = nI (tH τ) ∧ Tm 0 11 = nI (tE τ) ∧ Tm 0 12 = nI (tF τ) ∧ (∀ i, i < 6 → Tm 6 i = nI (kd τ i)) ∧ (∀ w, w < 6 → Tm 5 (4 * w) = nI (cl τ w)) ∧ (∀ v w, v < 2 → w < 6 → Tm 5 (4 * w + 1 + v) = bcell τ v w) ∧ (∀ w, w < 6 → Tm 5 (4 * w + 3) = nI (wo τ w)) ∧ ∀ i, i < 96 → Tm 7 i = nI (mn τ i)
section TOLD
variable {Tt Tm : Gp} {τ : TD}
theorem bcell_m1 (hw : TW τ) (v w : Nat) : (bcell τ v w = -nI 1) = (cn τ v w = false) := by
  unfold bcell
  obtain ⟨-, -, -, -, -, -, -, -, -, hb, -⟩ := hw
  cases h : cn τ v w
  · simp
  · simp only [if_true, e_eqm (show br τ v w < 2 ^ 31 by have := hb v w; omega)]
    simp
theorem c_kindOf (h : CT Tt τ) {p : Nat} (hp : p < tN τ) : fX9_kindOf Tt (nI p) = some (nI (kd τ p)) := by
  obtain ⟨hw, h0, h1, h2, h3, hk, hc, hb, hwo, hm⟩ := h
  have hn := hw.1
  unfold fX9_kindOf
  simp (disch := omega) only [lit, h0, e_lt, e_le, e_ix, cl_nI]
  rw [if_neg (by omega), if_neg (by omega), if_neg (by omega), if_pos (by omega), hk p (by omega)]
theorem c_kindOfN (h : CT Tt τ) {p : Nat} (hp : tN τ ≤ p) (hp2 : p < 2 ^ 31) : fX9_kindOf Tt (nI p) = some (-nI 1) := by
  obtain ⟨hw, h0, h1, h2, h3, hk, hc, hb, hwo, hm⟩ := h
  have hn := hw.1
  unfold fX9_kindOf
  simp (disch := omega) only [lit, h0, e_lt, e_le, e_ix, cl_nI]
  rw [if_neg (by omega), if_pos (by omega)]
theorem c_classOf (h : CT Tt τ) {w : Nat} (hw5 : w ≤ 5) : fX9_classOf Tt (nI w) = some (nI (cl τ w)) := by
  obtain ⟨hw, h0, h1, h2, h3, hk, hc, hb, hwo, hm⟩ := h
  unfold fX9_classOf
  simp (disch := omega) only [lit, e_lt, e_le, e_ix, cl_nI]
  by_cases h5 : w = 5
  · subst h5
    rw [if_neg (by omega), if_pos (by omega), hw.2.2.2.2.2.2.1]
  · rw [if_neg (by omega), if_neg (by omega), if_pos (by omega), hc w (by omega)]
theorem c_worthOf (h : CT Tt τ) {w : Nat} (hw5 : w ≤ 5) : fX9_worthOf Tt (nI w) = some (nI (wo τ w)) := by
  obtain ⟨hw, h0, h1, h2, h3, hk, hc, hb, hwo, hm⟩ := h
  unfold fX9_worthOf
  simp (disch := omega) only [lit, e_lt, e_le, e_ix, cl_nI]
  by_cases h5 : w = 5
  · subst h5
    rw [if_neg (by omega), if_pos (by omega), hw.2.2.2.2.2.2.2.2.2.2.1]
  · rw [if_neg (by omega), if_neg (by omega), if_pos (by omega), hwo w (by omega)]
theorem c_breadOf (h : CT Tt τ) {v w : Nat} (hv : v < 2) (hw5 : w ≤ 5) : fX9_breadOf Tt (nI v) (nI w) = some (bcell τ v w) := by
  obtain ⟨hw, h0, h1, h2, h3, hk, hc, hb, hwo, hm⟩ := h
  unfold fX9_breadOf fX9_breadOf_22 fX9_breadOf_23
  simp (disch := omega) only [lit, e_lt, e_le, e_eq, e_add, e_mul, e_ix, cl_nI, if_true]
  by_cases h5 : w = 5
  · subst h5
    rw [if_neg (by omega), if_neg (by omega), if_neg (by omega), if_pos (by omega)]
    unfold bcell
    rw [if_pos (hw.2.2.2.2.2.2.2.1 v), hw.2.2.2.2.2.2.2.2.1 v]
  · rw [if_neg (by omega), if_neg (by omega), if_neg (by omega), if_neg (by omega), if_neg (by omega), if_pos (by omega), hb v w hv (by omega)]
theorem c_meantOn (h : CT Tt τ) {o v p hr : Nat} (ho : o < 2) (hv : v < 2) (hp : p < 6) (hh : hr < 4) : fX9_meantOn Tt (nI o) (nI v) (nI p) (nI hr) = some (nI (mn τ (48 * o + 24 * v + 4 * p + hr))) := by
  obtain ⟨hw, h0, h1, h2, h3, hk, hc, hb, hwo, hm⟩ := h
  unfold fX9_meantOn fX10_slotIndex fX10_personIndex
  simp (disch := omega) only [lit, bd1_s, e_add, e_mul, e_sub]
  rw [show (96 - 1 : Nat) = 96 - 1 from rfl, within_ok (by omega) (by omega), ok_nI (by omega) (by omega)]
  simp (disch := omega) only [bd1_s, bI_t, e_eq, e_ix, cl_nI]
  rw [if_neg (by omega), if_pos (by omega), hm _ (by omega)]
  congr 3
  omega
theorem c_mayDo (h : CT Tt τ) {v p hr w : Nat} (hv : v < 2) (hp : p < tN τ) (hh : hr < 4) (hw5 : w ≤ 5) : fX9_mayDo Tt (nI v) (nI p) (nI hr) (nI w) = some (bI (may τ v p hr w)) := by
  have hb := c_breadOf h hv hw5
  have hk := c_kindOf h hp
  have hc := c_classOf h hw5
  obtain ⟨hw, h0, h1, h2, h3, -⟩ := h
  have hkd := hw.2.2.2.2.1 p
  have hcl := hw.2.2.2.2.2.1 w
  have hn := hw.2.1
  unfold fX9_mayDo fX9_mayDo_46 may
  simp (disch := omega) only [lit, hb, hk, hc, bd1_s, h1, e_eq, e_lt, e_sub, bcell_m1 hw]
  by_cases a1 : w = 5
  · rw [if_pos a1]; simp [a1, bI]
  · rw [if_neg a1]
    cases a2 : cn τ v w
    · simp [a1, bI]
    · by_cases a3 : kd τ p = 1
      · by_cases a4 : cl τ w = 3
        · simp [a1, a3, a4, bI]
        · simp [a1, a3, a4, bI]
      · by_cases a5 : kd τ p = 2
        · by_cases a6 : tH τ < 2
          · simp [a1, a5, a6, bI, show ¬ 2 ≤ tH τ by omega]
          · by_cases a7 : hr = tH τ - 1
            · simp [a1, a5, a6, a7, bI, show 2 ≤ tH τ by omega, show tH τ - 1 + 1 = tH τ by omega]
            · simp [a1, a5, a6, a7, bI, show 2 ≤ tH τ by omega, show ¬ hr + 1 = tH τ by omega]
        · simp [a1, a3, a5, bI]
theorem c_breadMade (h : CT Tt τ) {v p w : Nat} (hv : v < 2) (hp : p < tN τ) (hw5 : w ≤ 5) (hcn : cn τ v w = true) : fX9_breadMade Tt (nI v) (nI p) (nI w) = some (nI (bm τ v p w)) := by
  have hb := c_breadOf h hv hw5
  have hk := c_kindOf h hp
  obtain ⟨hw, -⟩ := h
  have hkd := hw.2.2.2.2.1 p
  have hbr := hw.2.2.2.2.2.2.2.2.2.1 v w
  unfold fX9_breadMade bm
  rw [hb, hk]
  unfold bcell
  rw [if_pos hcn]
  simp (disch := omega) only [lit, bd1_s, e_eq, div_nI]
  by_cases a : kd τ p = 2
  · rw [if_pos a, if_pos a]
  · rw [if_neg a, if_neg a]
theorem c_keepsTreaty (h : CT Tt τ) {o p w1 w2 : Nat} (ho : o < 2) (hp : p < tN τ) (h1 : w1 ≤ 5) (h2 : w2 ≤ 5) : fX9_keepsTreaty Tt (nI o) (nI p) (nI w1) (nI w2) = some (bI (kt τ o p w1 w2)) := by
  have hk := c_kindOf h hp
  have hc1 := c_classOf h h1
  have hc2 := c_classOf h h2
  obtain ⟨hw, -⟩ := h
  have hkd := hw.2.2.2.2.1 p
  have a1 := hw.2.2.2.2.2.1 w1
  have a2 := hw.2.2.2.2.2.1 w2
  unfold fX9_keepsTreaty fX9_keepsTreaty_30 kt
  simp (disch := omega) only [lit, hk, hc1, hc2, bd1_s, e_eq]
  by_cases b1 : kd τ p = 3
  · simp [b1, bI]
  · by_cases b2 : cl τ w1 = cl τ w2
    · by_cases b3 : o = 0
      · simp [b1, b2, b3, bI]
      · simp [b1, b2, b3, bI]
    · by_cases b3 : o = 0
      · simp [b1, b2, b3, bI]
      · simp [b1, b2, b3, bI]
theorem c_canBeDone (h : CT Tt τ) {v w : Nat} (hv : v < 2) (hw5 : w ≤ 5) : fX9_canBeDone Tt (nI v) (nI w) = some (bI (cn τ v w)) := by
  have hb := c_breadOf h hv hw5
  unfold fX9_canBeDone
  simp only [hb, bd1_s, m1_eq, bcell_m1 h.1]
  cases cn τ v w <;> rfl
theorem c_hasPair (h : CT Tt τ) (x : Int32) : fX9_hasPair Tt x = some (bI (ok x (tN τ))) := by
  obtain ⟨hw, h0, -⟩ := h
  have hn := hw.1
  unfold fX9_hasPair
  simp (disch := omega) only [lit, h0, e_sub]
  rw [within_ok (by omega) (by omega)]
  simp only [bd1_s, bI_nar, if_true]
theorem c_hasHour (h : CT Tt τ) (x : Int32) : fX9_hasHour Tt x = some (bI (ok x (tH τ))) := by
  obtain ⟨hw, h0, h1, -⟩ := h
  have hn := hw.2.1
  unfold fX9_hasHour
  simp (disch := omega) only [lit, h1, e_sub]
  rw [within_ok (by omega) (by omega)]
  simp only [bd1_s, bI_nar, if_true]
theorem c_isValley (x : Int32) : fX10_isValley x = some (bI (ok x 2)) := by
  unfold fX10_isValley
  rw [show (1 : Int32) = nI (2 - 1) from rfl, show (0 : Int32) = nI 0 from rfl, within_ok (by omega) (by omega)]
  simp only [bd1_s, bI_nar, if_true]
/-! the reference's -/
theorem m_isValley (x : Int32) : fX11_isValley x = some (bI (ok x 2)) := by
  unfold fX11_isValley
  rw [in_ok (n := 2) (by decide)]
  simp only [bd1_s, bI_nar, if_true]
theorem l_sub1 {n : Nat} (h : 1 ≤ n) (h2 : n < 2 ^ 31) : (nI n - nI 1).toInt64.toInt = (n : Int) - 1 := by
  rw [e_sub h, Int32.toInt_toInt64, nI_toInt (by omega)]; omega
theorem m_isPair (h : RT Tm τ) (x : Int32) : fX11_isPair Tm x = some (bI (ok x (tN τ))) := by
  obtain ⟨hw, h0, -⟩ := h
  have hn := hw.1
  unfold fX11_isPair
  rw [h0, lit, in_ok (n := tN τ) (l_sub1 (by omega) (by omega))]
  simp only [bd1_s, bI_nar, if_true]
theorem m_isHour (h : RT Tm τ) (x : Int32) : fX11_isHour Tm x = some (bI (ok x (tH τ))) := by
  obtain ⟨hw, h0, h1, -⟩ := h
  have hn := hw.2.1
  unfold fX11_isHour
  rw [h1, lit, in_ok (n := tH τ) (l_sub1 (by omega) (by omega))]
  simp only [bd1_s, bI_nar, if_true]
theorem m_may_63 (h : RT Tm τ) {v w a b : Nat} (hv : v < 2) (hw5 : w ≤ 5) (ha : a < 2) (hb2 : b < 2) : fX11_may_63 Tm (nI v) (nI w) (nI a) (nI b) = some (bI (decide (w = 5) || (cn τ v w && decide (a = 0) && decide (b = 0)))) := by
  obtain ⟨hw, h0, h1, h2, h3, hk, hc, hb, hwo, hm⟩ := h
  unfold fX11_may_63
  simp (disch := omega) only [lit, e_add, e_mul, e_ix, cl_nI, hb v w hv (by omega), e_eq, bcell_m1 hw]
  have q3 : 4 * w + 1 + v < 24 := by omega
  simp only [q3, if_true]
  by_cases a1 : w = 5
  · simp [a1, bI]
  · cases a2 : cn τ v w
    · simp [a1, bI]
    · by_cases a3 : a = 0
      · by_cases a4 : b = 0
        · simp [a1, a3, a4, bI]
        · simp [a1, a3, a4, bI]
      · simp [a1, a3, bI]
theorem m_may_28 (h : RT Tm τ) {v p hr w a : Nat} (hv : v < 2) (hp : p < tN τ) (hh : hr < 4) (hw5 : w ≤ 5) (ha : a < 2) : fX11_may_28 Tm (nI v) (nI p) (nI hr) (nI w) (nI a) = some (bI (decide (w = 5) || (cn τ v w && decide (a = 0) && !(decide (kd τ p = 2) && decide (2 ≤ tH τ) && decide (hr + 1 = tH τ))))) := by
  have k0 := m_may_63 h hv hw5 ha (show 0 < 2 by omega)
  have k1 := m_may_63 h hv hw5 ha (show 1 < 2 by omega)
  obtain ⟨hw, h0, h1, h2, h3, hk, hc, hb, hwo, hm⟩ := h
  have hkd := hw.2.2.2.2.1 p
  have hn := hw.2.1
  have hn2 := hw.1
  unfold fX11_may_28 fX11_may_62
  simp (disch := omega) only [lit, e_ix, cl_nI, hk p (by omega), h1, e_eq, e_le, e_sub, k0, k1]
  have q1 : p < 6 := by omega
  simp only [q1, if_true]
  by_cases a5 : kd τ p = 2
  · by_cases a6 : tH τ ≤ 1
    · simp [a5, a6, show ¬ 2 ≤ tH τ by omega]
    · by_cases a7 : hr = tH τ - 1
      · simp [a5, a6, a7, show 2 ≤ tH τ by omega, show tH τ - 1 + 1 = tH τ by omega]
      · simp [a5, a6, a7, show 2 ≤ tH τ by omega, show ¬ hr + 1 = tH τ by omega]
  · simp [a5]
theorem m_may (h : RT Tm τ) {v p hr w : Nat} (hv : v < 2) (hp : p < tN τ) (hh : hr < 4) (hw5 : w ≤ 5) : fX11_may Tm (nI v) (nI p) (nI hr) (nI w) = some (bI (may τ v p hr w)) := by
  have k0 := m_may_28 h hv hp hh hw5 (show 0 < 2 by omega)
  have k1 := m_may_28 h hv hp hh hw5 (show 1 < 2 by omega)
  obtain ⟨hw, h0, h1, h2, h3, hk, hc, hb, hwo, hm⟩ := h
  have hkd := hw.2.2.2.2.1 p
  have hcl := hw.2.2.2.2.2.1 w
  have hn2 := hw.1
  unfold fX11_may fX11_may_27 may
  simp (disch := omega) only [lit, e_mul, e_ix, cl_nI, hk p (by omega), hc w (by omega), e_eq, k0, k1]
  have q1 : p < 6 := by omega
  have q2 : 4 * w < 24 := by omega
  simp only [q1, q2, if_true]
  by_cases a3 : kd τ p = 1
  · by_cases a4 : cl τ w = 3
    · simp [a3, a4]
    · simp [a3, a4]
  · simp [a3]
end TOLD
