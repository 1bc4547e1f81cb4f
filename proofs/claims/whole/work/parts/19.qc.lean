section API2
variable {Tt Td Tm : Gp} {τ : TD}
def doneD (δ : DA) (i w : Nat) : DA := (dT δ, dI δ, fun j => if j = i then some w else dO δ j)
def illD (δ : DA) (i : Nat) (b : Bool) : DA := (dT δ, fun j => if j = i then b else dI δ j, dO δ)
theorem r_done (Te : Gp) (ht : CT Tt τ) (hm : RT Tm τ) {d : Nat} (h : DR d Td Tm) (x1 x2 x3 x4 : Int32) : ∃ r Ta Tb, fX10_done Te Td Tt x1 x2 x3 x4 = some (r, Ta) ∧ fX11_done Tm x1 x2 x3 x4 = some (r, Tb) ∧ FO 2 Tm Tb ∧ DR d Ta Tb := by
  have hN := ht.1.1
  have hH := ht.1.2.1
  have hself := h
  obtain ⟨δ, ν, a, b, m0, m1, hdd⟩ := h
  unfold fX10_done fX11_done
  simp only [n_6, lit, w_6, c_isSlot Te ht, m_isValley, m_isPair hm, m_isHour hm, bd1_s, bI_0]
  cases h1 : ok x1 2
  · exact ⟨_, Td, Tm, by simp; rfl, by simp, FO_r _ _, hself⟩
  cases h2 : ok x2 (tN τ)
  · exact ⟨_, Td, Tm, by simp; rfl, by simp, FO_r _ _, hself⟩
  cases h3 : ok x3 (tH τ)
  · exact ⟨_, Td, Tm, by simp; rfl, by simp, FO_r _ _, hself⟩
  cases h4 : ok x4 6
  · exact ⟨_, Td, Tm, by simp; rfl, by simp, FO_r _ _, hself⟩
  obtain ⟨v, hv, rfl⟩ := ok_ex h1 (by omega)
  obtain ⟨p, hp, rfl⟩ := ok_ex h2 (by omega)
  obtain ⟨hr, hh, rfl⟩ := ok_ex h3 (by omega)
  obtain ⟨w, hw, rfl⟩ := ok_ex h4 (by omega)
  have k := c_canBeDone ht hv (show w ≤ 5 by omega)
  have mb := hm.2.2.2.2.2.2.2.1 v w hv hw
  have km := bcell_m1 ht.1 v w
  have q1 : (ix (nI (4 * w + 1 + v)) 24) = True := by rw [e_ix (by omega)]; exact eq_true (by omega)
  have q2 : (ix (nI (39 + 24 * v + 4 * p + hr)) 261) = True := by rw [e_ix (by omega)]; exact eq_true (by omega)
  have z1 := cl_nI (show 4 * w + 1 + v < 2 ^ 31 by omega)
  have z2 := cl_nI (show 39 + 24 * v + 4 * p + hr < 2 ^ 31 by omega)
  simp only [k, bd1_s, bI_0, e_add, e_mul, q1, q2, z1, z2, mb, km]
  cases hcn : cn τ v w
  · exact ⟨_, Td, Tm, by simp; rfl, by simp, FO_r _ _, hself⟩
  · have e1 : fX0_tellOtherwise Td (nI v) (nI p) (nI hr) (nI w) = some (u2 Td 4 (24 * v + 4 * p + hr) (nI w)) := by
      unfold fX0_tellOtherwise fX10_slotIndex fX10_personIndex
      simp only [lit, bd1_s, e_add, e_mul]
      rw [show (47 : Nat) = 48 - 1 from rfl, within_ok (by omega) (by omega), ok_nI (by omega) (by omega)]
      simp (disch := omega) only [bd1_s, bI_t, e_eq, e_ix, cl_nI]
      rw [if_neg (by omega), if_pos (by omega), show (v * 6 + p) * 4 + hr = 24 * v + 4 * p + hr by omega]
    refine ⟨nI 1, u2 Td 4 (24 * v + 4 * p + hr) (nI w), u2 Tm 1 (39 + 24 * v + 4 * p + hr) (nI w), by simp [e1, bd1_s], by simp, FO_u (by left; unfold co; rw [if_neg (by omega), if_pos rfl, if_pos (by omega)]), doneD δ (24 * v + 4 * p + hr) w, ν, ⟨⟨a.1.1, ?_⟩, ?_, ?_, ?_⟩, ⟨?_, ?_, ?_⟩, ⟨⟨a.1.1, ?_⟩, ?_, ?_, ?_⟩, ⟨?_, ?_, ?_⟩, hdd⟩
    · intro i w' e
      show w' ≤ 5
      unfold doneD dO at e
      simp only at e
      by_cases g : i = 24 * v + 4 * p + hr
      · rw [if_pos g] at e; cases e; omega
      · rw [if_neg g] at e; exact a.1.2 i w' e
    · rw [u2_c (by omega)]; exact a.2.1
    · intro i hi; rw [u2_c (by omega)]; exact a.2.2.1 i hi
    · intro i hi
      rw [u2_ap]
      show _ = oI (if i = 24 * v + 4 * p + hr then some w else dO δ i)
      by_cases g : i = 24 * v + 4 * p + hr
      · rw [if_pos ⟨rfl, g⟩, if_pos g]; rfl
      · rw [if_neg (by omega), if_neg g]; exact a.2.2.2 i hi
    · intro i hi; rw [u2_c (by omega)]; exact b.1 i hi
    · intro i hi; rw [u2_c (by omega)]; exact b.2.1 i hi
    · intro i hi; rw [u2_c (by omega)]; exact b.2.2 i hi
    · intro i w' e
      show w' ≤ 5
      unfold doneD dO at e
      simp only at e
      by_cases g : i = 24 * v + 4 * p + hr
      · rw [if_pos g] at e; cases e; omega
      · rw [if_neg g] at e; exact a.1.2 i w' e
    · rw [u2_ap, if_neg (by omega)]; exact m0.2.1
    · intro i hi; rw [u2_ap, if_neg (by omega)]; exact m0.2.2.1 i hi
    · intro i hi
      rw [u2_ap]
      show _ = oI (if i = 24 * v + 4 * p + hr then some w else dO δ i)
      by_cases g : i = 24 * v + 4 * p + hr
      · rw [if_pos (by omega), if_pos g]; rfl
      · rw [if_neg (by omega), if_neg g]; exact m0.2.2.2 i hi
    · intro i hi; rw [u2_ap, if_neg (by omega)]; exact m1.1 i hi
    · intro i hi; rw [u2_ap, if_neg (by omega)]; exact m1.2.1 i hi
    · intro i hi; rw [u2_ap, if_neg (by omega)]; exact m1.2.2 i hi
theorem ill_c {δ : DA} (a : C0 Td δ) {i : Nat} (hi : i < 12) (b : Bool) (B : Int32) (hB : ∀ j, j < 12 → B.toBitVec.getLsbD j = if j = i then b else (Td 0 1).toBitVec.getLsbD j) : C0 (u2 Td 0 1 B) (illD δ i b) := by
  refine ⟨⟨a.1.1, a.1.2⟩, ?_, fun j hj => ?_, fun j hj => ?_⟩
  · rw [u2_i (by omega)]; exact a.2.1
  · have := a.2.2.1 j hj
    rw [bit_get _ hj, bit_dec] at this
    rw [u2_same, bit_get _ hj, bit_dec, hB j hj]
    show _ = if j = i then b else dI δ j
    rw [this]
  · rw [u2_c (by omega)]; exact a.2.2.2 j hj
theorem ill_b {ν : VV} (a : C1 Td ν) (B : Int32) : C1 (u2 Td 0 1 B) ν := by
  refine ⟨fun j hj => ?_, fun j hj => ?_, fun j hj => ?_⟩
  · rw [u2_c (by omega)]; exact a.1 j hj
  · rw [u2_c (by omega)]; exact a.2.1 j hj
  · rw [u2_c (by omega)]; exact a.2.2 j hj
theorem ill_m {δ : DA} {ν : VV} (m0 : M0 Tm 0 δ) (m1 : M1 Tm 0 ν) {i : Nat} (hi : i < 12) (b : Bool) : M0 (u2 Tm 1 (27 + i) (bI b)) 0 (illD δ i b) ∧ M1 (u2 Tm 1 (27 + i) (bI b)) 0 ν := by
  refine ⟨⟨⟨m0.1.1, m0.1.2⟩, ?_, fun j hj => ?_, fun j hj => ?_⟩, fun j hj => ?_, fun j hj => ?_, fun j hj => ?_⟩
  · rw [u2_ap, if_neg (by omega)]; exact m0.2.1
  · rw [u2_ap]
    show _ = bI (if j = i then b else dI δ j)
    by_cases g : j = i
    · rw [if_pos (by omega), if_pos g]
    · rw [if_neg (by omega), if_neg g]; exact m0.2.2.1 j hj
  · rw [u2_ap, if_neg (by omega)]; exact m0.2.2.2 j hj
  · rw [u2_ap, if_neg (by omega)]; exact m1.1 j hj
  · rw [u2_ap, if_neg (by omega)]; exact m1.2.1 j hj
  · rw [u2_ap, if_neg (by omega)]; exact m1.2.2 j hj
theorem r_ill (Te : Gp) (ht : CT Tt τ) (hm : RT Tm τ) {d : Nat} (h : DR d Td Tm) (x1 x2 x3 : Int32) : ∃ r Ta Tb, fX10_ill Te Td Tt x1 x2 x3 = some (r, Ta) ∧ fX11_ill Tm x1 x2 x3 = some (r, Tb) ∧ FO 2 Tm Tb ∧ DR d Ta Tb := by
  have hN := ht.1.1
  have hself := h
  obtain ⟨δ, ν, a, b, m0, m1, hdd⟩ := h
  unfold fX10_ill fX11_ill fX10_ill_29 fX0_tellIll fX10_personIndex
  simp only [lit, m1_eq, c_isPerson Te ht, m_isValley, m_isPair hm, bd1_s, bI_0]
  cases h1 : ok x1 2
  · exact ⟨_, Td, Tm, by simp; rfl, by simp, FO_r _ _, hself⟩
  cases h2 : ok x2 (tN τ)
  · exact ⟨_, Td, Tm, by simp; rfl, by simp, FO_r _ _, hself⟩
  obtain ⟨v, hv, rfl⟩ := ok_ex h1 (by omega)
  obtain ⟨p, hp, rfl⟩ := ok_ex h2 (by omega)
  have k := c_isIll a hv (show p < 6 by omega)
  have q1 : (ix (nI (27 + 6 * v + p)) 261) = True := by rw [e_ix (by omega)]; exact eq_true (by omega)
  have z1 := cl_nI (show 27 + 6 * v + p < 2 ^ 31 by omega)
  have g1 := m0.2.2.1 (6 * v + p) (by omega)
  rw [show 0 + 27 + (6 * v + p) = 27 + 6 * v + p by omega] at g1
  simp only [k, bd1_s, bI_0, e_add, e_mul, q1, z1, g1, if_true]
  have hco : co 1 (27 + 6 * v + p) = 2 ∨ co 1 (27 + 6 * v + p) = 0 := by left; unfold co; rw [if_neg (by omega), if_pos rfl, if_pos (by omega)]
  have fin : ∀ (b' : Bool) (B : Int32), (∀ j, j < 12 → B.toBitVec.getLsbD j = if j = 6 * v + p then b' else (Td 0 1).toBitVec.getLsbD j) → FO 2 Tm (u2 Tm 1 (27 + 6 * v + p) (bI b')) ∧ DR d (u2 Td 0 1 B) (u2 Tm 1 (27 + 6 * v + p) (bI b')) := by
    intro b' B hB
    have := ill_m m0 m1 (show 6 * v + p < 12 by omega) b'
    rw [← Nat.add_assoc] at this
    exact ⟨FO_u hco, _, ν, ill_c a (show 6 * v + p < 12 by omega) b' B hB, ill_b b B, this.1, this.2, hdd⟩
  rw [show v * 6 + p = 6 * v + p by omega]
  by_cases hx : x3 = nI 0
  · have f := fin false (Td 0 1 &&& ((nI 1 <<< (nI (6 * v + p) &&& nI 31)) ^^^ -nI 1)) (by
      intro j hj
      rw [bit_and _ (by omega) hj]
      by_cases e : j = 6 * v + p
      · rw [if_pos e]; simp [e]
      · rw [if_neg e]; simp [show ¬ 6 * v + p = j by omega])
    cases hi : dI δ (6 * v + p) <;> exact ⟨_, _, _, (by simp [hx]; rfl), (by simp [hx]; exact ⟨rfl, rfl⟩), f.1, f.2⟩
  · have f := fin true (Td 0 1 ||| (nI 1 <<< (nI (6 * v + p) &&& nI 31))) (by
      intro j hj
      rw [bit_or _ (by omega) hj]
      by_cases e : j = 6 * v + p
      · rw [if_pos e]; simp [e]
      · rw [if_neg e]; simp [show ¬ 6 * v + p = j by omega])
    cases hi : dI δ (6 * v + p) <;> exact ⟨_, _, _, (by simp [hx]; rfl), (by simp [hx]; exact ⟨rfl, rfl⟩), f.1, f.2⟩
theorem r_bread (Te : Gp) {d : Nat} (h : DR d Td Tm) (x : Int32) : ∃ r, fX10_bread Te Td x = some r ∧ fX11_bread Tm x = some r := by
  obtain ⟨δ, ν, a, b, m0, m1, hdd⟩ := h
  unfold fX10_bread fX11_bread
  simp only [lit, c_isValley, m_isValley, bd1_s, bI_0]
  cases h1 : ok x 2
  · exact ⟨_, by simp; rfl, by simp⟩
  obtain ⟨v, hv, rfl⟩ := ok_ex h1 (by omega)
  have g := m1.1 v hv
  rw [Nat.zero_add] at g
  simp (disch := omega) only [e_add, e_ix, cl_nI, b.1 v hv, g]
  rw [if_neg (by simp), if_pos (by omega), if_neg (by simp), if_pos (by omega)]
  exact ⟨_, rfl, rfl⟩
end API2
