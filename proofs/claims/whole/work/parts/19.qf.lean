section KEEP2
variable {Tt Td Tm Te Ta Tb : Gp} {τ : TD}
theorem MM_s {Tm Ta : Gp} {o1 o2 : Nat} {δ : DA} {ν : VV} (h : M0 Tm o1 δ) (g : M1 Tm o1 ν) (f : ∀ j, j < 87 → Ta 1 (o2 + j) = Tm 1 (o1 + j)) : M0 Ta o2 δ ∧ M1 Ta o2 ν := by
  refine ⟨⟨h.1, ?_, fun i hi => ?_, fun i hi => ?_⟩, fun i hi => ?_, fun i hi => ?_, fun i hi => ?_⟩
  · have := f 0 (by omega); rw [Nat.add_zero, Nat.add_zero] at this; rw [this]; exact h.2.1
  · rw [show o2 + 27 + i = o2 + (27 + i) by omega, f _ (by omega), ← Nat.add_assoc]; exact h.2.2.1 i hi
  · rw [show o2 + 39 + i = o2 + (39 + i) by omega, f _ (by omega), ← Nat.add_assoc]; exact h.2.2.2 i hi
  · rw [show o2 + 1 + i = o2 + (1 + i) by omega, f _ (by omega), ← Nat.add_assoc]; exact g.1 i hi
  · rw [show o2 + 3 + i = o2 + (3 + i) by omega, f _ (by omega), ← Nat.add_assoc]; exact g.2.1 i hi
  · rw [show o2 + 15 + i = o2 + (15 + i) by omega, f _ (by omega), ← Nat.add_assoc]; exact g.2.2 i hi
def KS (d : Nat) (Te Tz Tm : Gp) (s : Nat) : Prop := (Te 2 s = nI 0 ∧ Tm 2 s = nI 0) ∨ (Te 2 s = nI 1 ∧ Tm 2 s = nI 1 ∧ ∃ δ ν, C0 Tz δ ∧ C1 Tz ν ∧ M0 Tm (87 + 87 * s) δ ∧ M1 Tm (87 + 87 * s) ν ∧ dT δ ≤ d)
def KR (d : Nat) (Te Ta Tb Tm : Gp) : Prop := KS d Te Ta Tm 0 ∧ KS d Te Tb Tm 1
theorem KS_mono {d e : Nat} {Tz : Gp} {s : Nat} (h : KS d Te Tz Tm s) (hde : d ≤ e) : KS e Te Tz Tm s := by
  rcases h with h | ⟨a, b, δ, ν, c0, c1, m0, m1, hd⟩
  · exact Or.inl h
  · exact Or.inr ⟨a, b, δ, ν, c0, c1, m0, m1, by omega⟩
theorem KS_E {d : Nat} {Tz Tn Tf : Gp} {s : Nat} (h : KS d Te Tz Tm s) (h1 : Tf 2 s = Te 2 s) (h2 : Tn 2 s = Tm 2 s) (h3 : ∀ j, j < 87 → Tn 1 (87 + 87 * s + j) = Tm 1 (87 + 87 * s + j)) : KS d Tf Tz Tn s := by
  rcases h with h | ⟨a, b, δ, ν, c0, c1, m0, m1, hd⟩
  · exact Or.inl ⟨h1.trans h.1, h2.trans h.2⟩
  · have := MM_i m0 m1 h3
    exact Or.inr ⟨h1.trans a, h2.trans b, δ, ν, c0, c1, this.1, this.2, hd⟩
theorem KR_E {d : Nat} {Tn : Gp} (h : KR d Te Ta Tb Tm) (f : EqO 3 Tm Tn) : KR d Te Ta Tb Tn := by
  have g : ∀ s j, Tn 1 (87 + 87 * s + j) = Tm 1 (87 + 87 * s + j) := fun s j => f 1 _ (by unfold co; rw [if_neg (by omega), if_pos rfl, if_neg (by omega)])
  exact ⟨KS_E h.1 rfl (f 2 0 rfl) (fun j _ => g 0 j), KS_E h.2 rfl (f 2 1 rfl) (fun j _ => g 1 j)⟩
theorem co_1b {i : Nat} (h : 87 ≤ i) : co 1 i = 3 := by unfold co; rw [if_neg (by omega), if_pos rfl, if_neg (by omega)]
theorem m_keep {s : Nat} (hs : s < 2) : ∃ Tn, fX11_keep Tm (nI s) = some (Tm 1 0, Tn) ∧ FO 3 Tm Tn ∧ Tn 2 s = nI 1 ∧ (∀ t, t ≠ s → Tn 2 t = Tm 2 t) ∧ (∀ j, j < 87 → Tn 1 (87 + 87 * s + j) = Tm 1 (0 + j)) ∧ (∀ j, j < 87 + 87 * s ∨ 87 + 87 * s + 87 ≤ j → Tn 1 j = Tm 1 j) := by
  obtain ⟨T1, e, f, g⟩ := m_copy 0 (1 + s) (by omega) (by omega) (by omega) 87 0 fu Tm (by omega) (fu_gt (by omega))
  refine ⟨u2 T1 2 s (nI 1), ?_, ?_, u2_same _ _ _ _, fun t ht => ?_, fun j hj => ?_, fun j hj => ?_⟩
  · unfold fX11_keep fX11_copy
    simp only [lit]
    rw [n_2, ok_nI hs (by omega)]
    simp only [bd1_s, bI_0, e_add]
    rw [if_neg (by simp), e]
    simp only [bd1_s]
    rw [if_pos (by rw [e_ix (by omega)]; omega), cl_nI (show s < 2 ^ 31 by omega), show (nI 0).toNatClampNeg = 0 from rfl, f 1 0 (by omega)]
    rfl
  · intro c j h1 h2
    rw [u2_ap]
    by_cases h : c = 2 ∧ j = s
    · exact absurd (by rw [h.1]; rfl) h2
    · rw [if_neg h]
      apply f
      by_cases hc : c = 1
      · subst hc
        by_cases hj : 87 ≤ j
        · exact absurd (co_1b hj) h2
        · right; left; omega
      · left; exact hc
  · rw [u2_i ht, f 2 t (by omega)]
  · rw [u2_c (by omega), show 87 + 87 * s + j = 87 * (1 + s) + j by omega, g j (by omega) hj, show 87 * 0 + j = 0 + j by omega]
  · rw [u2_c (by omega), f 1 j (by omega)]
theorem r_keep {d : Nat} (h : DR d Td Tm) (k : KR d Te Ta Tb Tm) (x : Int32) : ∃ r Te' Ta' Tb' Tn, fX10_keep Te Td Ta Tb x = some (r, Te', Ta', Tb') ∧ fX11_keep Tm x = some (r, Tn) ∧ FO 3 Tm Tn ∧ KR d Te' Ta' Tb' Tn := by
  obtain ⟨δ, ν, a, b, m0, m1, hdd⟩ := h
  cases hx : ok x 2
  · refine ⟨-nI 2, Te, Ta, Tb, Tm, ?_, ?_, FO_r _ _, k⟩
    · unfold fX10_keep
      simp only [lit]
      rw [w_2, hx]
      simp only [bd1_s, bI_0, if_true]
    · unfold fX11_keep
      simp only [lit]
      rw [n_2, hx]
      simp only [bd1_s, bI_0, if_true]
  obtain ⟨s, hs, rfl⟩ := ok_ex hx (by omega)
  obtain ⟨Tn, e, fo, t1, t2, t3, t4⟩ := m_keep (Tm := Tm) hs
  have h00 : Tm 1 0 = Td 0 0 := m0.2.1.trans a.2.1.symm
  rw [h00] at e
  have q : (ix (nI s) 2) = True := by rw [e_ix (by omega)]; exact eq_true (by omega)
  have mm := MM_s m0 m1 (o2 := 87 + 87 * s) t3
  have hs2 : s = 0 ∨ s = 1 := by omega
  rcases hs2 with rfl | rfl
  · obtain ⟨T1, e1, c0, c1⟩ := c_becomeLike a b Ta
    refine ⟨_, u2 Te 2 0 (nI 1), T1, Tb, Tn, ?_, e, fo, Or.inr ⟨u2_same _ _ _ _, t1, δ, ν, c0, c1, mm.1, mm.2, hdd⟩, KS_E k.2 (u2_i (by omega)) (t2 1 (by omega)) (fun j hj => t4 _ (by omega))⟩
    unfold fX10_keep
    simp only [lit]
    rw [w_2, hx]
    simp only [bd1_s, bI_0, q, if_true, e1]
    rw [if_neg (by simp)]
    rfl
  · obtain ⟨T1, e1, c0, c1⟩ := c_becomeLike a b Tb
    refine ⟨_, u2 Te 2 1 (nI 1), Ta, T1, Tn, ?_, e, fo, KS_E k.1 (u2_i (by omega)) (t2 0 (by omega)) (fun j hj => t4 _ (by omega)), Or.inr ⟨u2_same _ _ _ _, t1, δ, ν, c0, c1, mm.1, mm.2, hdd⟩⟩
    unfold fX10_keep
    simp only [lit]
    rw [w_2, hx]
    simp only [bd1_s, bI_0, q, if_true, e1]
    rw [if_neg (by simp), if_neg (by rw [e_eq (by omega) (by omega)]; omega)]
    rfl
theorem r_back {d : Nat} (h : DR d Td Tm) (k : KR d Te Ta Tb Tm) (x : Int32) : ∃ r Td' Tn, fX10_back Te Td Ta Tb x = some (r, Td') ∧ fX11_back Tm x = some (r, Tn) ∧ FO 2 Tm Tn ∧ DR d Td' Tn := by
  unfold fX10_back fX11_back fX11_copy
  simp only [lit]
  rw [w_2, n_2]
  simp only [bd1_s, bI_0]
  cases hx : ok x 2
  · exact ⟨_, Td, Tm, by simp; rfl, by simp, FO_r _ _, h⟩
  obtain ⟨s, hs, rfl⟩ := ok_ex hx (by omega)
  have q : (ix (nI s) 2) = True := by rw [e_ix (by omega)]; exact eq_true (by omega)
  simp only [q, Bool.true_eq_false, if_true, if_false]
  rw [cl_nI (show s < 2 ^ 31 by omega)]
  have main : ∀ Tz, KS d Te Tz Tm s → ∃ r Td' Tn, (if Te 2 s = nI 0 then some (-nI 4, Td) else bd1 (fX0_becomeLike Td Tz) (fun T => some (T 0 0, T))) = some (r, Td') ∧ (if Tm 2 s = nI 0 then some (-nI 4, Tm) else bd1 (lX11_copy_2 fu Tm (nI 1 + nI s) (nI 0) (nI 0)) (fun T => some (T 1 (nI 0).toNatClampNeg, T))) = some (r, Tn) ∧ FO 2 Tm Tn ∧ DR d Td' Tn := by
    intro Tz hz
    rcases hz with ⟨z1, z2⟩ | ⟨z1, z2, δ, ν, c0, c1, m0, m1, hd⟩
    · rw [z1, z2, if_pos rfl, if_pos rfl]
      exact ⟨_, Td, Tm, rfl, rfl, FO_r _ _, h⟩
    · have h10 : (nI 1 = nI 0) = False := by rw [e_eq (by omega) (by omega)]; exact eq_false (by omega)
      obtain ⟨T1, e1, a0, a1⟩ := c_becomeLike c0 c1 Td
      obtain ⟨T2, e2, f, g⟩ := m_copy (1 + s) 0 (by omega) (by omega) (by omega) 87 0 fu Tm (by omega) (fu_gt (by omega))
      have mm := MM_s m0 m1 (Ta := T2) (o2 := 0) (fun j hj => by
        have := g j (by omega) hj
        rw [show 87 * 0 + j = 0 + j by omega, show 87 * (1 + s) + j = 87 + 87 * s + j by omega] at this
        exact this)
      rw [z1, z2, e_add]
      simp only [h10, if_false]
      rw [e1, e2]
      refine ⟨nI (dT δ), T1, T2, ?_, ?_, fun c j h1 h2 => ?_, δ, ν, a0, a1, mm.1, mm.2, hd⟩
      · rw [bd1_s, a0.2.1]
      · rw [bd1_s, show (nI 0).toNatClampNeg = 0 from rfl, mm.1.2.1]
      · apply f
        by_cases hc : c = 1
        · subst hc
          by_cases hj : 87 ≤ j
          · right; right; omega
          · exact absurd (by unfold co; rw [if_neg (by omega), if_pos rfl, if_pos (by omega)]) h2
        · left; exact hc
  have hs2 : s = 0 ∨ s = 1 := by omega
  rcases hs2 with rfl | rfl
  · simp only [if_true]
    exact main Ta k.1
  · have h10 : (nI 1 = nI 0) = False := by rw [e_eq (by omega) (by omega)]; exact eq_false (by omega)
    simp only [h10, if_false]
    exact main Tb k.2
theorem r_count (ht : CT Tt τ) (hm : RT Tm τ) {d : Nat} (h : DR d Td Tm) (Tx Tr : Gp) (h5 : Tr 0 0 = Tm 0 29) (h6 : Tx 0 0 = Tm 0 3) (x : Int32) : ∃ r, fX10_count Te Td Tx Tt Tr x = some r ∧ fX11_count Tm x = some r := by
  have hN := ht.1.1
  obtain ⟨δ, ν, a, b, m0, m1, hdd⟩ := h
  unfold fX10_count fX11_count
  have u0 := ht.2.1
  have u1 := ht.2.2.1
  have u2 := ht.2.2.2.1
  have u3 := ht.2.2.2.2.1
  have v0 := hm.2.1
  have v1 := hm.2.2.1
  have v2 := hm.2.2.2.1
  have v3 := hm.2.2.2.2.1
  have v4 : Tm 1 (0 : Int32).toNatClampNeg = nI (dT δ) := m0.2.1
  rw [u0, u1, u2, u3, v0, v1, v2, v3, v4, a.2.1, h5, h6]
  simp only [lit]
  by_cases e0 : x = nI 0
  · simp only [e0, if_true]; exact ⟨_, rfl, rfl⟩
  by_cases e1 : x = nI 1
  · simp only [e0, if_false]; simp only [e1, if_true]; exact ⟨_, rfl, rfl⟩
  by_cases e2 : x = nI 2
  · simp only [e0, e1, if_false]; simp only [e2, if_true]; exact ⟨_, rfl, rfl⟩
  by_cases e3 : x = nI 3
  · simp only [e0, e1, e2, if_false]; simp only [e3, if_true]; exact ⟨_, rfl, rfl⟩
  by_cases e4 : x = nI 4
  · simp only [e0, e1, e2, e3, if_false]; simp only [e4, if_true]; exact ⟨_, rfl, rfl⟩
  by_cases e5 : x = nI 5
  · simp only [e0, e1, e2, e3, e4, if_false]; simp only [e5, if_true]; exact ⟨_, rfl, rfl⟩
  by_cases e6 : x = nI 6
  · simp only [e0, e1, e2, e3, e4, e5, if_false]; simp only [e6, if_true]; exact ⟨_, rfl, rfl⟩
  simp only [e0, e1, e2, e3, e4, e5, e6, if_false]
  rw [within_eq, in_eq, nI_toInt (show 7 < 2 ^ 31 by omega), nI_toInt (show 12 < 2 ^ 31 by omega), show (7 : Int64).toInt = ((7 : Nat) : Int) from by decide, show (12 : Int64).toInt = ((12 : Nat) : Int) from by decide]
  simp only [bd1_s, bI_0]
  cases hx : decide (((7 : Nat) : Int) ≤ x.toInt ∧ x.toInt ≤ ((12 : Nat) : Int))
  · exact ⟨_, by simp; rfl, by simp⟩
  · have hx1 := of_decide_eq_true hx
    obtain ⟨j, hj, rfl⟩ := ok_ex (x := x) (n := 13) (decide_eq_true ⟨by omega, by omega⟩) (by omega)
    rw [nI_toInt (by omega)] at hx1
    have hsub : nI j - nI 7 = nI (j - 7) := e_sub (by omega)
    simp only [hsub, m_isPair hm, Bool.true_eq_false, if_false, bd1_s, bI_0]
    by_cases hp : j - 7 < tN τ
    · have q : (ix (nI (j - 7)) 6) = True := by rw [e_ix (by omega)]; exact eq_true (by omega)
      rw [c_kindOf ht hp, ok_nI hp (by omega)]
      simp only [q, Bool.true_eq_false, if_true, if_false, bd1_s]
      rw [cl_nI (show j - 7 < 2 ^ 31 by omega), hm.2.2.2.2.2.1 _ (by omega)]
      exact ⟨_, rfl, rfl⟩
    · rw [c_kindOfN ht (by omega) (by omega)]
      have : ok (nI (j - 7)) (tN τ) = false := by
        unfold ok
        rw [nI_toInt (by omega)]
        exact decide_eq_false (by omega)
      rw [this]
      simp only [if_true, bd1_s]
      exact ⟨_, rfl, rfl⟩
end KEEP2
