/-- of days: how many have gone, who is ill, what is told to be done otherwise -/
abbrev DA : Type := Nat × (Nat → Bool) × (Nat → Option Nat)
def dT (δ : DA) : Nat := δ.1
def dI (δ : DA) : Nat → Bool := δ.2.1
def dO (δ : DA) : Nat → Option Nat := δ.2.2
def oI (o : Option Nat) : Int32 := match o with
  | none => -nI 1
  | some w => nI w
def DW (δ : DA) : Prop := dT δ < 2 ^ 20 ∧ ∀ i w, dO δ i = some w → w ≤ 5
/-- bread, faults, owed -/
abbrev VV : Type := (Nat → Int32) × (Nat → Int32) × (Nat → Int32)
def C0 (Td : Gp) (δ : DA) : Prop := DW δ ∧ Td 0 0 = nI (dT δ) ∧ (∀ i, i < 12 → ((Td 0 1) >>> (nI i &&& nI 31)) &&& nI 1 = bI (dI δ i)) ∧ ∀ i, i < 48 → Td 4 i = oI (dO δ i)
def C1 (Td : Gp) (ν : VV) : Prop := (∀ v, v < 2 → Td 1 v = ν.1 v) ∧ (∀ i, i < 12 → Td 2 i = ν.2.1 i) ∧ ∀ i, i < 12 → Td 3 i = ν.2.2 i
def M0 (Tm : Gp) (off : Nat) (δ : DA) : Prop := DW δ ∧ Tm 1 off = nI (dT δ) ∧ (∀ i, i < 12 → Tm 1 (off + 27 + i) = bI (dI δ i)) ∧ ∀ i, i < 48 → Tm 1 (off + 39 + i) = oI (dO δ i)
def M1 (Tm : Gp) (off : Nat) (ν : VV) : Prop := (∀ v, v < 2 → Tm 1 (off + 1 + v) = ν.1 v) ∧ (∀ i, i < 12 → Tm 1 (off + 3 + i) = ν.2.1 i) ∧ ∀ i, i < 12 → Tm 1 (off + 15 + i) = ν.2.2 i
def wants (τ : TD) (δ : DA) (v p hr : Nat) : Nat := (dO δ (24 * v + 4 * p + hr)).getD (mn τ (48 * (dT δ % 2) + 24 * v + 4 * p + hr))
def does (τ : TD) (δ : DA) (v p hr : Nat) : Nat := if dI δ (6 * v + p) = true then 5 else if may τ v p hr (wants τ δ v p hr) = true then wants τ δ v p hr else 5
def stray (τ : TD) (δ : DA) (v p hr : Nat) : Bool := match dO δ (24 * v + 4 * p + hr) with
  | none => false
  | some w => !decide (w = mn τ (48 * (dT δ % 2) + 24 * v + 4 * p + hr))
def breach (τ : TD) (δ : DA) (p hr : Nat) : Bool := !dI δ p && !dI δ (6 + p) && !kt τ (dT δ % 2) p (does τ δ 0 p hr) (does τ δ 1 p hr)
theorem wants_le {τ : TD} {δ : DA} (hw : TW τ) (hd : DW δ) (v p hr : Nat) : wants τ δ v p hr ≤ 5 := by
  unfold wants
  cases h : dO δ (24 * v + 4 * p + hr) with
  | none => exact hw.2.2.2.2.2.2.2.2.2.2.2.2 _
  | some w => exact hd.2 _ w h
theorem does_le {τ : TD} {δ : DA} (hw : TW τ) (hd : DW δ) (v p hr : Nat) : does τ δ v p hr ≤ 5 := by
  unfold does
  have := wants_le hw hd v p hr
  split
  · omega
  · split <;> omega
theorem does_cn {τ : TD} {δ : DA} (hw : TW τ) (v p hr : Nat) : cn τ v (does τ δ v p hr) = true := by
  have h5 := hw.2.2.2.2.2.2.2.1 v
  unfold does
  split
  · exact h5
  · split
    · rename_i h
      unfold may at h
      by_cases a : wants τ δ v p hr = 5
      · rw [a]; exact h5
      · simp [a] at h; exact h.1.1
    · exact h5
section DAYS
variable {Tt Td Tm : Gp} {τ : TD} {δ : DA} {ν : VV}
theorem c_isIll (h : C0 Td δ) {v p : Nat} (hv : v < 2) (hp : p < 6) : fX0_isIll Td (nI v) (nI p) = some (bI (dI δ (6 * v + p))) := by
  have g := h.2.2.1 (v * 6 + p) (by omega)
  rw [show 6 * v + p = v * 6 + p by omega]
  unfold fX0_isIll fX10_personIndex
  simp only [lit, bd1_s, e_add, e_mul, g, bI_0]
  cases dI δ (v * 6 + p) <;> rfl
theorem c_toldFor (h : C0 Td δ) {v p hr : Nat} (hv : v < 2) (hp : p < 6) (hh : hr < 4) : fX0_toldFor Td (nI v) (nI p) (nI hr) = some (oI (dO δ (24 * v + 4 * p + hr))) := by
  unfold fX0_toldFor fX10_slotIndex fX10_personIndex
  simp only [lit, bd1_s, e_add, e_mul]
  rw [show (47 : Nat) = 48 - 1 from rfl, within_ok (by omega) (by omega), ok_nI (by omega) (by omega)]
  simp (disch := omega) only [bd1_s, bI_t, e_eq, e_ix, cl_nI]
  rw [if_neg (by omega), if_pos (by omega), h.2.2.2 _ (by omega)]
  congr 3
  omega
theorem and1 {t : Nat} (h : t < 2 ^ 31) : nI t &&& nI 1 = nI (t % 2) := pk_andN (by omega) (k := 1) rfl
theorem c_odd (h : C0 Td δ) : fX0_odd Td = some (nI (dT δ % 2)) := by
  unfold fX0_odd
  rw [h.2.1, lit, and1 (by have := h.1.1; omega)]
theorem oI_m1 {o : Option Nat} (h : ∀ w, o = some w → w ≤ 5) : (oI o = -nI 1) = (o = none) := by
  cases o with
  | none => simp [oI]
  | some w =>
    have := h w rfl
    simp only [oI, e_eqm (show w < 2 ^ 31 by omega)]
    simp
theorem c_workOf (ht : CT Tt τ) (h : C0 Td δ) {v p hr : Nat} (hv : v < 2) (hp : p < tN τ) (hh : hr < 4) : fX0_workOf Td Tt (nI v) (nI p) (nI hr) = some (nI (does τ δ v p hr)) := by
  have hn := ht.1.1
  have hwl := wants_le ht.1 h.1 v p hr
  have k1 := c_isIll h hv (show p < 6 by omega)
  have k2 := c_toldFor h hv (show p < 6 by omega) hh
  have k3 := c_odd h
  have k4 := c_meantOn ht (show dT δ % 2 < 2 by omega) hv (show p < 6 by omega) hh
  have k5 := c_mayDo ht hv hp hh hwl
  unfold fX0_workOf fX0_workOf_41 does
  simp only [lit, k1, bd1_s, bI_0]
  cases a1 : dI δ (6 * v + p)
  · simp only [if_true, k2, bd1_s, m1_eq]
    rw [if_neg (by simp)]
    have hoI := oI_m1 (fun w hw => h.1.2 (24 * v + 4 * p + hr) w hw)
    cases a2 : dO δ (24 * v + 4 * p + hr) with
    | none =>
      have e1 : wants τ δ v p hr = mn τ (48 * (dT δ % 2) + 24 * v + 4 * p + hr) := by unfold wants; rw [a2]; rfl
      rw [e1] at k5 ⊢
      simp only [oI, if_true, k3, k4, bd1_s, k5, bI_0]
      cases may τ v p hr (mn τ (48 * (dT δ % 2) + 24 * v + 4 * p + hr)) <;> simp
    | some w =>
      have e1 : wants τ δ v p hr = w := by unfold wants; rw [a2]; rfl
      have hw5 := h.1.2 _ w a2
      rw [e1] at k5 ⊢
      simp only [oI, e_eqm (show w < 2 ^ 31 by omega), if_false, k5, bd1_s, bI_0]
      cases may τ v p hr w <;> simp
  · simp
theorem c_isBreach (ht : CT Tt τ) (h : C0 Td δ) {p hr : Nat} (hp : p < tN τ) (hh : hr < 4) : fX0_isBreach Td Tt (nI p) (nI hr) = some (bI (breach τ δ p hr)) := by
  have hn := ht.1.1
  have k1 := c_isIll h (show 0 < 2 by omega) (show p < 6 by omega)
  have k2 := c_isIll h (show 1 < 2 by omega) (show p < 6 by omega)
  have k3 := c_workOf ht h (show 0 < 2 by omega) hp hh
  have k4 := c_workOf ht h (show 1 < 2 by omega) hp hh
  have k5 := c_odd h
  have k6 := c_keepsTreaty ht (show dT δ % 2 < 2 by omega) hp (does_le ht.1 h.1 0 p hr) (does_le ht.1 h.1 1 p hr)
  rw [show 6 * 0 + p = p by omega] at k1
  rw [show 6 * 1 + p = 6 + p by omega] at k2
  unfold fX0_isBreach breach
  simp only [lit, k1, k2, k3, k4, k5, k6, bd1_s, bI_0]
  cases dI δ p <;> cases dI δ (6 + p) <;> cases kt τ (dT δ % 2) p (does τ δ 0 p hr) (does τ δ 1 p hr) <;> simp [bI]
theorem c_isToldOtherwise (ht : CT Tt τ) (h : C0 Td δ) {v p hr : Nat} (hv : v < 2) (hp : p < 6) (hh : hr < 4) : fX0_isToldOtherwise Td Tt (nI v) (nI p) (nI hr) = some (bI (stray τ δ v p hr)) := by
  have k2 := c_toldFor h hv hp hh
  have k3 := c_odd h
  have k4 := c_meantOn ht (show dT δ % 2 < 2 by omega) hv hp hh
  have hm := ht.1.2.2.2.2.2.2.2.2.2.2.2.2 (48 * (dT δ % 2) + 24 * v + 4 * p + hr)
  unfold fX0_isToldOtherwise stray
  simp only [lit, k2, k3, k4, bd1_s]
  cases a2 : dO δ (24 * v + 4 * p + hr) with
  | none => simp [oI, bI]
  | some w =>
    have hw5 := h.1.2 _ w a2
    simp only [oI, e_eqm (show w < 2 ^ 31 by omega), if_false, e_eq (show w < 2 ^ 31 by omega) (show mn τ (48 * (dT δ % 2) + 24 * v + 4 * p + hr) < 2 ^ 31 by omega)]
    by_cases a : w = mn τ (48 * (dT δ % 2) + 24 * v + 4 * p + hr)
    · simp [a, bI]
    · simp [a, bI]
/-! the reference's -/
theorem m_meansOf (ht : RT Tm τ) (h : M0 Tm 0 δ) {v p hr : Nat} (hv : v < 2) (hp : p < 6) (hh : hr < 4) : fX11_meansOf Tm (nI v) (nI p) (nI hr) = some (nI (mn τ (48 * (dT δ % 2) + 24 * v + 4 * p + hr))) := by
  obtain ⟨hw, h0, h1, h2, h3, hk, hc, hb, hwo, hm⟩ := ht
  have hd := h.1.1
  unfold fX11_meansOf fX11_meantAt
  simp only [lit]
  rw [show (nI 0).toNatClampNeg = 0 from rfl, h.2.1, irm_nI (by omega) (by omega) (by omega)]
  simp only [e_add, e_mul, bd1_s]
  simp (disch := omega) only [e_ix, cl_nI]
  rw [if_pos (by omega), hm _ (by omega)]
theorem m_does (ht : RT Tm τ) (h : M0 Tm 0 δ) {v p hr : Nat} (hv : v < 2) (hp : p < tN τ) (hh : hr < 4) : fX11_does Tm (nI v) (nI p) (nI hr) = some (nI (does τ δ v p hr)) := by
  have hn := ht.1.1
  have hwl := wants_le ht.1 h.1 v p hr
  have k4 := m_meansOf ht h hv (show p < 6 by omega) hh
  have k5 := m_may ht hv hp hh hwl
  have g1 := h.2.2.1 (6 * v + p) (by omega)
  have g2 := h.2.2.2 (24 * v + 4 * p + hr) (by omega)
  rw [show 0 + 27 + (6 * v + p) = 27 + 6 * v + p by omega] at g1
  rw [show 0 + 39 + (24 * v + 4 * p + hr) = 39 + 24 * v + 4 * p + hr by omega] at g2
  unfold fX11_does fX11_does_38 does
  simp (disch := omega) only [lit, e_add, e_mul, e_ix, cl_nI, g1, g2, bI_0]
  have q1 : 39 + 24 * v + 4 * p + hr < 261 := by omega
  have q2 : 27 + 6 * v + p < 261 := by omega
  simp only [q1, q2, if_true]
  cases a2 : dO δ (24 * v + 4 * p + hr) with
  | none =>
    have e1 : wants τ δ v p hr = mn τ (48 * (dT δ % 2) + 24 * v + 4 * p + hr) := by unfold wants; rw [a2]; rfl
    rw [e1] at k5 ⊢
    simp only [oI, if_true, k4, bd1_s, k5, bI_0]
    cases dI δ (6 * v + p) <;> cases may τ v p hr (mn τ (48 * (dT δ % 2) + 24 * v + 4 * p + hr)) <;> simp
  | some w =>
    have e1 : wants τ δ v p hr = w := by unfold wants; rw [a2]; rfl
    have hw5 := h.1.2 _ w a2
    rw [e1] at k5 ⊢
    simp only [oI, e_eqm (show w < 2 ^ 31 by omega), if_false, k5, bd1_s, bI_0]
    cases dI δ (6 * v + p) <;> cases may τ v p hr w <;> simp
theorem m_b74 (h : M0 Tm 0 δ) {a : Nat} (ha : a < 2) : fX11_isBreach_74 Tm (nI a) = some (bI (decide (dT δ % 2 = a))) := by
  have hd := h.1.1
  have r3 : irm (Tm 1 (nI 0).toNatClampNeg) (nI 2) = nI (dT δ % 2) := by
    rw [show (nI 0).toNatClampNeg = 0 from rfl, h.2.1]
    exact irm_nI (by omega) (by omega) (by omega)
  unfold fX11_isBreach_74
  simp only [lit, r3]
  simp (disch := omega) only [e_eq]
  have ho : dT δ % 2 = 0 ∨ dT δ % 2 = 1 := by omega
  have hb : a = 0 ∨ a = 1 := by omega
  rcases ho with ho | ho <;> rcases hb with hb | hb <;> subst hb <;> rw [ho] <;> rfl
theorem m_isBreach (ht : RT Tm τ) (h : M0 Tm 0 δ) {p hr : Nat} (hp : p < tN τ) (hh : hr < 4) : fX11_isBreach Tm (nI p) (nI hr) = some (bI (breach τ δ p hr)) := by
  have hn := ht.1.1
  have k3 := m_does ht h (show 0 < 2 by omega) hp hh
  have k4 := m_does ht h (show 1 < 2 by omega) hp hh
  have l0 := does_le ht.1 h.1 0 p hr
  have l1 := does_le ht.1 h.1 1 p hr
  have g1 := h.2.2.1 p (by omega)
  have g2 := h.2.2.1 (6 + p) (by omega)
  rw [show 0 + 27 + p = 27 + p by omega] at g1
  rw [show 0 + 27 + (6 + p) = 33 + p by omega] at g2
  have z0 := m_b74 h (show 0 < 2 by omega)
  have z1 := m_b74 h (show 1 < 2 by omega)
  obtain ⟨hw, h0, h1, h2, h3, hk, hc, hb, hwo, hm⟩ := ht
  have hkd := hw.2.2.2.2.1 p
  have c0 := hw.2.2.2.2.2.1 (does τ δ 0 p hr)
  have c1 := hw.2.2.2.2.2.1 (does τ δ 1 p hr)
  have hd := h.1.1
  unfold fX11_isBreach breach kt
  generalize does τ δ 0 p hr = d0 at *
  generalize does τ δ 1 p hr = d1 at *
  have q1 : (ix (nI p) 6) = True := by rw [e_ix (by omega)]; exact eq_true (by omega)
  have q2 : (ix (nI (27 + p)) 261) = True := by rw [e_ix (by omega)]; exact eq_true (by omega)
  have q3 : (ix (nI (33 + p)) 261) = True := by rw [e_ix (by omega)]; exact eq_true (by omega)
  have q4 : (ix (nI (4 * d0)) 24) = True := by rw [e_ix (by omega)]; exact eq_true (by omega)
  have q5 : (ix (nI (4 * d1)) 24) = True := by rw [e_ix (by omega)]; exact eq_true (by omega)
  have r0 := hc d0 (by omega)
  have r1 := hc d1 (by omega)
  have r2 := hk p (by omega)
  simp only [lit, e_add, e_mul, k3, k4, bd1_s, q1, q2, q3, q4, q5, if_true]
  rw [cl_nI (show p < 2 ^ 31 by omega), cl_nI (show 27 + p < 2 ^ 31 by omega), cl_nI (show 33 + p < 2 ^ 31 by omega), cl_nI (show 4 * d0 < 2 ^ 31 by omega), cl_nI (show 4 * d1 < 2 ^ 31 by omega), r2, g1, g2, r0, r1, z0, z1]
  simp only [bI_1, e_eq (show kd τ p < 2 ^ 31 by omega) (show 3 < 2 ^ 31 by omega), e_eq (show cl τ d0 < 2 ^ 31 by omega) (show cl τ d1 < 2 ^ 31 by omega)]
  have ho : dT δ % 2 = 0 ∨ dT δ % 2 = 1 := by omega
  by_cases b1 : kd τ p = 3
  · simp [b1, bI]
  · rcases ho with ho | ho <;> by_cases b2 : cl τ d0 = cl τ d1 <;> cases dI δ p <;> cases dI δ (6 + p) <;> simp [b1, b2, ho, bI]
theorem m_strays (ht : RT Tm τ) (h : M0 Tm 0 δ) {v p hr : Nat} (hv : v < 2) (hp : p < 6) (hh : hr < 4) : fX11_strays Tm (nI v) (nI p) (nI hr) = some (bI (stray τ δ v p hr)) := by
  have k4 := m_meansOf ht h hv hp hh
  have g2 := h.2.2.2 (24 * v + 4 * p + hr) (by omega)
  rw [show 0 + 39 + (24 * v + 4 * p + hr) = 39 + 24 * v + 4 * p + hr by omega] at g2
  have hm := ht.1.2.2.2.2.2.2.2.2.2.2.2.2 (48 * (dT δ % 2) + 24 * v + 4 * p + hr)
  unfold fX11_strays stray
  simp (disch := omega) only [lit, e_add, e_mul, e_ix, cl_nI, g2, k4, bd1_s]
  have q1 : 39 + 24 * v + 4 * p + hr < 261 := by omega
  simp only [q1, if_true]
  cases a2 : dO δ (24 * v + 4 * p + hr) with
  | none => simp [oI, bI]
  | some w =>
    have hw5 := h.1.2 _ w a2
    simp only [oI, e_eqm (show w < 2 ^ 31 by omega), if_false, e_eq (show w < 2 ^ 31 by omega) (show mn τ (48 * (dT δ % 2) + 24 * v + 4 * p + hr) < 2 ^ 31 by omega)]
    by_cases a : w = mn τ (48 * (dT δ % 2) + 24 * v + 4 * p + hr)
    · simp [a, bI]
    · simp [a, bI]
end DAYS
