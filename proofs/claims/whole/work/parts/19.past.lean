/-! the reference's day -/
def FR (Tm Ta : Gp) : Prop := ∀ c i, (c ≠ 1 ∨ 87 ≤ i) → Ta c i = Tm c i
theorem FR_r (Tm : Gp) : FR Tm Tm := fun _ _ _ => rfl
theorem FR_t {A B C : Gp} (h : FR A B) (g : FR B C) : FR A C := fun c i e => (g c i e).trans (h c i e)
theorem FR_u {A : Gp} {i : Nat} {v : Int32} (h : i < 87) : FR A (u2 A 1 i v) := fun c j e => by rw [u2_ap, if_neg (by omega)]
theorem RT_F {Tm Ta : Gp} {τ : TD} (h : RT Tm τ) (f : FR Tm Ta) : RT Ta τ := by
  obtain ⟨hw, h0, h1, h2, h3, hk, hc, hb, hwo, hm⟩ := h
  refine ⟨hw, ?_, ?_, ?_, ?_, ?_, ?_, ?_, ?_, ?_⟩
  · rw [f _ _ (by omega)]; exact h0
  · rw [f _ _ (by omega)]; exact h1
  · rw [f _ _ (by omega)]; exact h2
  · rw [f _ _ (by omega)]; exact h3
  · intro i hi; rw [f _ _ (by omega)]; exact hk i hi
  · intro w hi; rw [f _ _ (by omega)]; exact hc w hi
  · intro v w hv hi; rw [f _ _ (by omega)]; exact hb v w hv hi
  · intro w hi; rw [f _ _ (by omega)]; exact hwo w hi
  · intro i hi; rw [f _ _ (by omega)]; exact hm i hi
section PASM
variable {Tt Td Tm : Gp} {τ : TD} {δ : DA} {ν : VV}
theorem M0_c {Ta : Gp} (h : M0 Tm 0 δ) (g : ∀ i, i = 0 ∨ 27 ≤ i → Ta 1 i = Tm 1 i) : M0 Ta 0 δ := by
  refine ⟨h.1, ?_, fun i hi => ?_, fun i hi => ?_⟩
  · rw [g _ (by omega)]; exact h.2.1
  · rw [g _ (by omega)]; exact h.2.2.1 i hi
  · rw [g _ (by omega)]; exact h.2.2.2 i hi
theorem m_charge (ht : RT Tm τ) (h : M0 Tm 0 δ) (g : M1 Tm 0 ν) {v p : Nat} (hv : v < 2) (hp : p < 6) : ∃ Ta, fX11_charge Tm (nI v) (nI p) = some Ta ∧ FR Tm Ta ∧ M0 Ta 0 δ ∧ M1 Ta 0 (aF ν (6 * v + p) (nI (tF τ))) := by
  have hf : Tm 0 12 = nI (tF τ) := ht.2.2.2.2.1
  refine ⟨u2 (u2 Tm 1 (3 + 6 * v + p) (Tm 1 (3 + 6 * v + p) + nI 1)) 1 (15 + 6 * v + p) (Tm 1 (15 + 6 * v + p) + nI (tF τ)), ?_, FR_t (FR_u (by omega)) (FR_u (by omega)), M0_c h ?_, fun j hj => ?_, fun j hj => ?_, fun j hj => ?_⟩
  · unfold fX11_charge
    simp only [lit, e_add, e_mul, hf]
    have q1 : (ix (nI (3 + 6 * v + p)) 261) = True := by rw [e_ix (by omega)]; exact eq_true (by omega)
    have q2 : (ix (nI (15 + 6 * v + p)) 261) = True := by rw [e_ix (by omega)]; exact eq_true (by omega)
    simp only [q1, q2, if_true]
    rw [cl_nI (show 3 + 6 * v + p < 2 ^ 31 by omega), cl_nI (show 15 + 6 * v + p < 2 ^ 31 by omega), u2_i (show 15 + 6 * v + p ≠ 3 + 6 * v + p by omega)]
  · intro i hi
    rw [u2_ap, if_neg (by omega), u2_ap, if_neg (by omega)]
  · rw [u2_ap, if_neg (by omega), u2_ap, if_neg (by omega)]; exact g.1 j hj
  · rw [u2_ap, if_neg (by omega), u2_ap]
    by_cases e : j = 6 * v + p
    · rw [if_pos (by omega)]
      have := g.2.1 j hj
      rw [show 0 + 3 + j = 3 + 6 * v + p by omega] at this
      rw [this, ← e]
      simp only [aF, if_true]
    · rw [if_neg (by omega)]
      simp only [e, if_false, aF]
      exact g.2.1 j hj
  · rw [u2_ap]
    by_cases e : j = 6 * v + p
    · rw [if_pos (by omega)]
      have := g.2.2 j hj
      rw [show 0 + 15 + j = 15 + 6 * v + p by omega] at this
      rw [this, ← e]
      simp only [aF, if_true]
    · rw [if_neg (by omega), u2_ap, if_neg (by omega)]
      simp only [e, if_false, aF]
      exact g.2.2 j hj
theorem m_bread (ht : RT Tm τ) (h : M0 Tm 0 δ) (g : M1 Tm 0 ν) (rec2 : Gp → Int32 → Option Gp) (rec12 : Gp → Int32 → Int32 → Option Gp) {p hr : Nat} (hp : p < tN τ) (hh : hr < 4) : ∃ Ta, lX11_day_78 rec2 rec12 fu Tm (nI p) (nI hr) (nI 0) = rec12 Ta (nI p) (nI (hr + 1)) ∧ FR Tm Ta ∧ M0 Ta 0 δ ∧ M1 Ta 0 (bB τ δ p hr ν) := by
  have hN := ht.1.1
  have hs : ∀ (n : Nat) (Tm : Gp) (ν : VV) (v : Nat), v < 2 → RT Tm τ → M0 Tm 0 δ → M1 Tm 0 ν → ∃ Ta, lX11_day_78 rec2 rec12 (n + 1) Tm (nI p) (nI hr) (nI v) = lX11_day_78 rec2 rec12 n Ta (nI p) (nI hr) (nI (v + 1)) ∧ FR Tm Ta ∧ M0 Ta 0 δ ∧ M1 Ta 0 (aB ν v (nI (bm τ v p (does τ δ v p hr)))) := by
    intro n Tm ν v hv ht h g
    have k1 := m_does ht h hv hp hh
    have l0 := does_le ht.1 h.1 v p hr
    have k2 := does_cn (δ := δ) ht.1 v p hr
    have hbr := ht.1.2.2.2.2.2.2.2.2.2.1 v (does τ δ v p hr)
    obtain ⟨hw, h0, h1, h2, h3, hk, hc, hb, hwo, hm⟩ := ht
    have b0 := hb v (does τ δ v p hr) hv (by omega)
    have hkd := hw.2.2.2.2.1 p
    have r2 := hk p (by omega)
    unfold bcell at b0
    rw [k2, if_pos rfl] at b0
    have e0 : lX11_day_78 rec2 rec12 (n + 1) Tm (nI p) (nI hr) (nI v) = lX11_day_78 rec2 rec12 n (u2 Tm 1 (1 + v) (Tm 1 (1 + v) + nI (bm τ v p (does τ δ v p hr)))) (nI p) (nI hr) (nI (v + 1)) := by
      rw [sX11_day_78]
      unfold fX11_day_78
      simp only [lit, k1, bd1_s, e_add, e_mul]
      generalize does τ δ v p hr = d at *
      have q1 : (ix (nI p) 6) = True := by rw [e_ix (by omega)]; exact eq_true (by omega)
      have q2 : (ix (nI (1 + v)) 261) = True := by rw [e_ix (by omega)]; exact eq_true (by omega)
      have q3 : (ix (nI (4 * d + 1 + v)) 24) = True := by rw [e_ix (by omega)]; exact eq_true (by omega)
      have q4 : (nI 2 ≤ nI v) = False := by rw [e_le (by omega) (by omega)]; exact eq_false (by omega)
      simp only [q1, q2, q3, q4, if_true, if_false]
      rw [cl_nI (show p < 2 ^ 31 by omega), cl_nI (show 1 + v < 2 ^ 31 by omega), cl_nI (show 4 * d + 1 + v < 2 ^ 31 by omega), r2, b0]
      simp only [e_eq (show kd τ p < 2 ^ 31 by omega) (show 2 < 2 ^ 31 by omega)]
      rw [div_nI (by omega) (by omega) (by omega)]
      unfold bm
      split <;> rfl
    refine ⟨_, e0, FR_u (by omega), M0_c h ?_, fun j hj => ?_, fun j hj => ?_, fun j hj => ?_⟩
    · intro i hi; rw [u2_ap, if_neg (by omega)]
    · rw [u2_ap]
      by_cases e : j = v
      · rw [if_pos (by omega)]
        have := g.1 j hj
        rw [show 0 + 1 + j = 1 + v by omega] at this
        rw [this, ← e]
        simp only [aB, if_true]
      · rw [if_neg (by omega)]
        simp only [e, if_false, aB]
        exact g.1 j hj
    · rw [u2_ap, if_neg (by omega)]; exact g.2.1 j hj
    · rw [u2_ap, if_neg (by omega)]; exact g.2.2 j hj
  obtain ⟨n, hn⟩ := fu_ex
  rw [hn]
  obtain ⟨T1, e1, f1, a1, b1⟩ := hs (n + 99989) Tm ν 0 (by omega) ht h g
  obtain ⟨T2, e2, f2, a2, b2⟩ := hs (n + 99988) T1 _ 1 (by omega) (RT_F ht f1) a1 b1
  refine ⟨T2, ?_, FR_t f1 f2, a2, b2⟩
  rw [show n + 99990 = n + 99989 + 1 from rfl, e1, show n + 99989 = n + 99988 + 1 from rfl, e2, show n + 99988 = n + 99987 + 1 from rfl, sX11_day_78]
  unfold fX11_day_78
  simp only [lit, e_add]
  exact if_pos (by rw [e_le (by omega) (by omega)]; omega)
def eat (E : Int32) (Tm : Gp) : Gp := u2 (u2 Tm 1 1 (Tm 1 1 - E)) 1 2 (Tm 1 2 - E)
theorem m_hours (rec2 : Gp → Int32 → Option Gp) {p : Nat} (hp : p < tN τ) : ∀ (k hr n : Nat) (Tm : Gp) (ν : VV), RT Tm τ → hr + k = tH τ → k < n → M0 Tm 0 δ → M1 Tm 0 ν → ∃ Ta, lX11_day_12 rec2 n Tm (nI p) (nI hr) = rec2 Ta (nI (p + 1)) ∧ FR Tm Ta ∧ M0 Ta 0 δ ∧ M1 Ta 0 (sB (hF τ δ p k hr ν) (nI (tE τ))) := by
  intro k
  induction k with
  | zero =>
    intro hr n Tm ν ht hk hn h g
    have hH := ht.1.2.1
    have hN := ht.1.1
    have h1 : Tm 0 7 = nI (tH τ) := ht.2.2.1
    have h2 : Tm 0 11 = nI (tE τ) := ht.2.2.2.1
    obtain ⟨m, rfl, -⟩ := gt_s hn
    refine ⟨eat (nI (tE τ)) Tm, ?_, FR_t (FR_u (by omega)) (FR_u (by omega)), M0_c h ?_, fun j hj => ?_, fun j hj => ?_, fun j hj => ?_⟩
    · rw [sX11_day_12]
      unfold fX11_day_12
      rw [h1, if_pos (by rw [e_le (by omega) (by omega)]; omega), h2]
      simp only [lit, e_add]
      rw [show (nI 1).toNatClampNeg = 1 from rfl, show (nI 2).toNatClampNeg = 2 from rfl, u2_i (show 2 ≠ 1 by omega)]
      rfl
    · intro i hi; unfold eat; rw [u2_ap, if_neg (by omega), u2_ap, if_neg (by omega)]
    · unfold eat
      rw [u2_ap, u2_ap]
      have hj2 : j = 0 ∨ j = 1 := by omega
      rcases hj2 with rfl | rfl
      · rw [if_neg (by omega), if_pos (by omega)]
        have := g.1 0 (by omega)
        rw [show 0 + 1 + 0 = 1 by omega] at this
        rw [this]; rfl
      · rw [if_pos (by omega)]
        have := g.1 1 (by omega)
        rw [show 0 + 1 + 1 = 2 by omega] at this
        rw [this]; rfl
    · unfold eat; rw [u2_ap, if_neg (by omega), u2_ap, if_neg (by omega)]; exact g.2.1 j hj
    · unfold eat; rw [u2_ap, if_neg (by omega), u2_ap, if_neg (by omega)]; exact g.2.2 j hj
  | succ k ih =>
    intro hr n Tm ν ht hk hn h g
    have hH := ht.1.2.1
    have hN := ht.1.1
    have h1 : Tm 0 7 = nI (tH τ) := ht.2.2.1
    obtain ⟨m, rfl, hm⟩ := gt_s hn
    have k0 := m_isBreach ht h hp (show hr < 4 by omega)
    have k1 := m_strays ht h (show 0 < 2 by omega) (show p < 6 by omega) (show hr < 4 by omega)
    have k2 := m_strays ht h (show 1 < 2 by omega) (show p < 6 by omega) (show hr < 4 by omega)
    have go : ∀ (Ta : Gp), FR Tm Ta → M0 Ta 0 δ → M1 Ta 0 (cF τ δ p hr ν) → ∃ Tb, lX11_day_78 rec2 (lX11_day_12 rec2 m) fu Ta (nI p) (nI hr) (nI 0) = rec2 Tb (nI (p + 1)) ∧ FR Tm Tb ∧ M0 Tb 0 δ ∧ M1 Tb 0 (sB (hF τ δ p (k + 1) hr ν) (nI (tE τ))) := by
      intro Ta fa ha ga
      obtain ⟨T1, e1, f1, a1, b1⟩ := m_bread (RT_F ht fa) ha ga rec2 (lX11_day_12 rec2 m) hp (show hr < 4 by omega)
      obtain ⟨T2, e2, f2, a2, b2⟩ := ih (hr + 1) m T1 (slotS τ δ p hr ν) (RT_F ht (FR_t fa f1)) (by omega) (by omega) a1 b1
      exact ⟨T2, e1.trans e2, FR_t (FR_t fa f1) f2, a2, b2⟩
    rw [sX11_day_12]
    unfold fX11_day_12 fX11_day_55 fX11_day_61 fX11_day_70
    rw [h1, if_neg (by rw [e_le (by omega) (by omega)]; omega)]
    simp only [lit, k0, k1, k2, bd1_s, bI_0]
    unfold cF at go
    cases hb : breach τ δ p hr
    · simp only [hb] at go
      simp only [if_true]
      exact go Tm (FR_r Tm) h g
    · simp only [hb, if_true] at go
      obtain ⟨T0, e0, f0, a0, b0⟩ := m_charge ht h g (show 0 < 2 by omega) (show p < 6 by omega)
      obtain ⟨T1, e1, f1, a1, b1⟩ := m_charge ht h g (show 1 < 2 by omega) (show p < 6 by omega)
      obtain ⟨T2, e2, f2, a2, b2⟩ := m_charge (RT_F ht f0) a0 b0 (show 1 < 2 by omega) (show p < 6 by omega)
      rw [show 6 * 0 + p = p by omega] at b0 b2
      rw [show 6 * 1 + p = 6 + p by omega] at b1 b2
      cases hs0 : stray τ δ 0 p hr <;> cases hs1 : stray τ δ 1 p hr <;> simp only [hs0, hs1] at go
      · obtain ⟨Tb, e, r⟩ := go T2 (FR_t f0 f2) a2 b2
        exact ⟨Tb, by simp [e0, e2, bd1_s]; exact e, r⟩
      · obtain ⟨Tb, e, r⟩ := go T1 f1 a1 b1
        exact ⟨Tb, by simp [e1, bd1_s]; exact e, r⟩
      · obtain ⟨Tb, e, r⟩ := go T0 f0 a0 b0
        exact ⟨Tb, by simp [e0, bd1_s]; exact e, r⟩
      · obtain ⟨Tb, e, r⟩ := go T2 (FR_t f0 f2) a2 b2
        exact ⟨Tb, by simp [e0, e2, bd1_s]; exact e, r⟩
end PASM
