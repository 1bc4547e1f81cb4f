theorem e_imn {a b : Nat} (ha : a < 2 ^ 31) (hb : b < 2 ^ 31) : imn (nI a) (nI b) = nI (min a b) := by
  unfold imn
  by_cases h : b < a
  · rw [if_pos (by rw [e_lt hb ha]; exact h), Nat.min_eq_right (by omega)]
  · rw [if_neg (by rw [e_lt hb ha]; exact h), Nat.min_eq_left (by omega)]
theorem e_imx {a b : Nat} (ha : a < 2 ^ 31) (hb : b < 2 ^ 31) : imx (nI a) (nI b) = nI (max a b) := by
  unfold imx
  by_cases h : a < b
  · rw [if_pos (by rw [e_lt ha hb]; exact h), Nat.max_eq_right (by omega)]
  · rw [if_neg (by rw [e_lt ha hb]; exact h), Nat.max_eq_left (by omega)]
section LISTS
variable {Tt Td Tm Tr Th Tg Te : Gp} {τ : TD}
/-- the rows recorded -/
def RR (Tr Tm : Gp) : Prop := ∃ len, len ≤ 40 ∧ Tr 0 0 = nI len ∧ Tm 0 29 = nI len ∧ ∀ i, i < len → ∃ b : Bool, Tr 1 i = bI b ∧ Tm 17 i = bI b
theorem RR_E {Tn : Gp} (h : RR Tr Tm) (f : EqO 7 Tm Tn) : RR Tr Tn := by
  obtain ⟨len, h0, h1, h2, h3⟩ := h
  refine ⟨len, h0, h1, by rw [f 0 29 rfl]; exact h2, fun i hi => ?_⟩
  rw [f 17 i rfl]
  exact h3 i hi
theorem r_burn (Te : Gp) (h : RR Tr Tm) : ∃ r Ta Tn, fX10_burn Te Tr = some (r, Ta) ∧ fX11_burn Tm = some (r, Tn) ∧ FO 7 Tm Tn ∧ RR Ta Tn := by
  obtain ⟨len, h0, h1, h2, h3⟩ := h
  unfold fX10_burn fX11_burn
  rw [h1, h2]
  exact ⟨_, _, _, rfl, rfl, FO_u (Or.inl rfl), 0, by omega, u2_same _ _ _ _, u2_same _ _ _ _, fun i hi => by omega⟩
theorem r_record (Te : Gp) (h : RR Tr Tm) (b : Bool) : ∃ r Ta Tn, fX10_record Te Tr (bI b) = some (r, Ta) ∧ fX11_record Tm (bI b) = some (r, Tn) ∧ FO 7 Tm Tn ∧ RR Ta Tn := by
  have hself := h
  obtain ⟨len, h0, h1, h2, h3⟩ := h
  unfold fX10_record fX11_record fX6_append fX11_record_29
  rw [h1, h2]
  have q0 : (nI len < nI 0) = False := by rw [e_lt (by omega) (by omega)]; exact eq_false (by omega)
  simp only [lit, bI_nar, bI_0, q0, if_false, e_add, e_lt (show len < 2 ^ 31 by omega) (show 40 < 2 ^ 31 by omega), e_eq (show len < 2 ^ 31 by omega) (show 40 < 2 ^ 31 by omega), e_ix (show len < 2 ^ 31 by omega)]
  rw [cl_nI (show len < 2 ^ 31 by omega)]
  by_cases hl : len = 40
  · rw [if_neg (by omega), if_pos hl]
    exact ⟨_, _, _, rfl, rfl, FO_r _ _, hself⟩
  · have hl2 : len < 40 := by omega
    refine ⟨nI (len + 1), u2 (u2 Tr 1 len (bI b)) 0 0 (nI (len + 1)), u2 (u2 Tm 17 len (bI b)) 0 29 (nI (len + 1)), ?_, ?_, FO_t (FO_u (Or.inl rfl)) (FO_u (Or.inl rfl)), len + 1, by omega, u2_same _ _ _ _, u2_same _ _ _ _, fun i hi => ?_⟩
    · simp only [hl2, if_true, bd1_s]
      rw [u2_same]
    · simp only [hl2, hl, if_true, if_false]
      cases b <;> simp [bI]
    · have a1 : u2 (u2 Tr 1 len (bI b)) 0 0 (nI (len + 1)) 1 i = if i = len then bI b else Tr 1 i := by
        rw [u2_ap, if_neg (by omega), u2_ap]
        simp
      have a2 : u2 (u2 Tm 17 len (bI b)) 0 29 (nI (len + 1)) 17 i = if i = len then bI b else Tm 17 i := by
        rw [u2_ap, if_neg (by omega), u2_ap]
        simp
      rw [a1, a2]
      by_cases g : i = len
      · rw [if_pos g, if_pos g]
        exact ⟨b, rfl, rfl⟩
      · rw [if_neg g, if_neg g]
        exact h3 i (by omega)
/-- the harms -/
def HR (Th Tm : Gp) : Prop := ∀ i, i < 36 → ∃ w, w ≤ 99 ∧ Th 1 i = nI w ∧ Tm 13 i = nI w
theorem HR_E {Tn : Gp} (h : HR Th Tm) (f : EqO 5 Tm Tn) : HR Th Tn := by
  intro i hi
  rw [f 13 i rfl]
  exact h i hi
theorem r_harm (Te : Gp) (ht : CT Tt τ) (hm : RT Tm τ) (h : HR Th Tm) (x1 x2 x3 : Int32) : ∃ r Ta Tn, fX10_harm Te Tt Th x1 x2 x3 = some (r, Ta) ∧ fX11_harm Tm x1 x2 x3 = some (r, Tn) ∧ FO 5 Tm Tn ∧ HR Ta Tn := by
  have hN := ht.1.1
  unfold fX10_harm fX11_harm fX4_changeHarm
  simp only [lit, c_hasPair ht, m_isPair hm, bd1_s, bI_0]
  rw [w_100, n_100, show nI 36 - nI 1 = nI 35 from rfl]
  simp only [bd1_s, bI_0]
  cases h1 : ok x1 (tN τ)
  · exact ⟨_, Th, Tm, by simp; rfl, by simp, FO_r _ _, h⟩
  cases h2 : ok x2 (tN τ)
  · exact ⟨_, Th, Tm, by simp; rfl, by simp, FO_r _ _, h⟩
  cases h3 : ok x3 100
  · exact ⟨_, Th, Tm, by simp; rfl, by simp, FO_r _ _, h⟩
  obtain ⟨p, hp, rfl⟩ := ok_ex h1 (by omega)
  obtain ⟨q, hq, rfl⟩ := ok_ex h2 (by omega)
  obtain ⟨w, hw, rfl⟩ := ok_ex h3 (by omega)
  have e6 : p * 6 + q = 6 * p + q := by omega
  have k : fX10_within (nI (6 * p + q)) (nI 0) (nI 35) = some (bI true) := by
    rw [show (35 : Nat) = 36 - 1 from rfl, within_ok (by omega) (by omega), ok_nI (by omega) (by omega)]
  have q1 : (ix (nI (6 * p + q)) 36) = True := by rw [e_ix (by omega)]; exact eq_true (by omega)
  simp only [e_mul, e_add, e6, k, bd1_s, bd2_s, bI_0, q1, Bool.true_eq_false, if_true, if_false]
  rw [cl_nI (show 6 * p + q < 2 ^ 31 by omega)]
  obtain ⟨w0, hw0, g1, g2⟩ := h (6 * p + q) (by omega)
  rw [g1, g2]
  refine ⟨_, _, _, rfl, rfl, FO_u (Or.inl rfl), fun i hi => ?_⟩
  rw [u2_ap, u2_ap]
  by_cases g : i = 6 * p + q
  · rw [if_pos ⟨rfl, g⟩, if_pos ⟨rfl, g⟩]
    exact ⟨w, by omega, rfl, rfl⟩
  · rw [if_neg (by omega), if_neg (by omega)]
    exact h i hi
/-- the likings -/
def LR (Tg Tm : Gp) : Prop := ∀ v i j, v < 2 → i < 6 → j < 6 → i ≠ j → ∃ w, w ≤ 99 ∧ Tg 1 ((v * 6 + min i j) * 6 + max i j) = nI w ∧ Tm 15 (36 * v + 6 * i + j) = nI w
theorem LR_E {Tn : Gp} (h : LR Tg Tm) (f : EqO 6 Tm Tn) : LR Tg Tn := by
  intro v i j hv hi hj hij
  rw [f 15 _ rfl]
  exact h v i j hv hi hj hij
theorem r_like (Te : Gp) (ht : CT Tt τ) (hm : RT Tm τ) (h : LR Tg Tm) (x1 x2 x3 x4 : Int32) : ∃ r Ta Tn, fX10_like Te Tt Tg x1 x2 x3 x4 = some (r, Ta) ∧ fX11_like Tm x1 x2 x3 x4 = some (r, Tn) ∧ FO 6 Tm Tn ∧ LR Ta Tn := by
  have hN := ht.1.1
  unfold fX10_like fX11_like fX2_changeLiking fX2_indexOf
  simp only [lit, c_isPerson Te ht, m_isValley, m_isPair hm, bd1_s, bI_0]
  rw [w_100, n_100, show nI 72 - nI 1 = nI 71 from rfl]
  simp only [bd1_s, bI_0]
  cases h1 : ok x1 2
  · exact ⟨_, Tg, Tm, by simp; rfl, by simp, FO_r _ _, h⟩
  cases h2 : ok x2 (tN τ)
  · exact ⟨_, Tg, Tm, by simp; rfl, by simp, FO_r _ _, h⟩
  cases h3 : ok x3 (tN τ)
  · exact ⟨_, Tg, Tm, by simp; rfl, by simp, FO_r _ _, h⟩
  by_cases h23 : x2 = x3
  · exact ⟨_, Tg, Tm, by simp [h23]; rfl, by simp [h23], FO_r _ _, h⟩
  cases h4 : ok x4 100
  · exact ⟨_, Tg, Tm, by simp [h23]; rfl, by simp [h23], FO_r _ _, h⟩
  obtain ⟨v, hv, rfl⟩ := ok_ex h1 (by omega)
  obtain ⟨p, hp, rfl⟩ := ok_ex h2 (by omega)
  obtain ⟨q, hq, rfl⟩ := ok_ex h3 (by omega)
  obtain ⟨w, hw, rfl⟩ := ok_ex h4 (by omega)
  have hpq : p ≠ q := fun e => h23 (by rw [e])
  have hlt : (v * 6 + min p q) * 6 + max p q < 72 := by omega
  have k : fX10_within (nI ((v * 6 + min p q) * 6 + max p q)) (nI 0) (nI 71) = some (bI true) := by
    rw [show (71 : Nat) = 72 - 1 from rfl, within_ok (by omega) (by omega), ok_nI hlt (by omega)]
  have q1 : (ix (nI ((v * 6 + min p q) * 6 + max p q)) 72) = True := by rw [e_ix (by omega)]; exact eq_true hlt
  have q2 : (ix (nI (36 * v + 6 * p + q)) 72) = True := by rw [e_ix (by omega)]; exact eq_true (by omega)
  have q3 : (ix (nI (36 * v + 6 * q + p)) 72) = True := by rw [e_ix (by omega)]; exact eq_true (by omega)
  simp only [e_imn (show p < 2 ^ 31 by omega) (show q < 2 ^ 31 by omega), e_imx (show p < 2 ^ 31 by omega) (show q < 2 ^ 31 by omega), e_mul, e_add, k, bd1_s, bd2_s, bI_0, q1, q2, q3, h23, Bool.and_self, Bool.true_eq_false, if_true, if_false]
  rw [cl_nI (show (v * 6 + min p q) * 6 + max p q < 2 ^ 31 by omega), cl_nI (show 36 * v + 6 * p + q < 2 ^ 31 by omega), cl_nI (show 36 * v + 6 * q + p < 2 ^ 31 by omega)]
  obtain ⟨w0, hw0, g1, g2⟩ := h v p q hv (by omega) (by omega) hpq
  rw [g1, g2]
  refine ⟨_, _, _, rfl, rfl, FO_t (FO_u (Or.inl rfl)) (FO_u (Or.inl rfl)), fun u i j hu hi hj hij => ?_⟩
  rw [u2_ap, u2_ap, u2_ap]
  by_cases g : u = v ∧ ((i = p ∧ j = q) ∨ (i = q ∧ j = p))
  · have e1 : (u * 6 + min i j) * 6 + max i j = (v * 6 + min p q) * 6 + max p q := by
      rcases g with ⟨rfl, ⟨rfl, rfl⟩ | ⟨rfl, rfl⟩⟩
      · rfl
      · rw [Nat.min_comm, Nat.max_comm]
    rw [if_pos ⟨rfl, e1⟩]
    rcases g with ⟨rfl, ⟨rfl, rfl⟩ | ⟨rfl, rfl⟩⟩
    · rw [if_neg (by omega), if_pos ⟨rfl, rfl⟩]
      exact ⟨w, by omega, rfl, rfl⟩
    · rw [if_pos ⟨rfl, rfl⟩]
      exact ⟨w, by omega, rfl, rfl⟩
  · rw [if_neg (by omega), if_neg (by omega), if_neg (by omega)]
    exact h u i j hu hi hj hij
end LISTS
