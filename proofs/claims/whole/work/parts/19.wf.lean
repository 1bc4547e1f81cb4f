section PLN
variable {Tm : Gp} {τ : TD} {o w : Nat}
/-- the reference's choice behind a place -/
def Ct (τ : TD) (o w s : Nat) (Tm : Gp) : Prop := Tm 0 21 = nI (md τ o w s) ∧ ∀ s', s' < s → Tm 10 (2 * s') = nI (cK τ o w s' / 6) ∧ Tm 10 (2 * s' + 1) = nI (cK τ o w s' % 6)
theorem m_45 (rec28 : Gp → Int32 → Int32 → Int32 → Option (Int32 × Gp)) (hm : RT Tm τ) {s : Nat} (ho : o < 2) (hw2 : w < 201) (hs : s < sS τ) (hT : Mt τ o w 0 Tm) (hv0 : PV τ o (sS τ) w ≠ 0) : ∀ k i n, i + k = cK τ o w s → k < n → lX11_choose_45 rec28 n Tm (nI o) (nI (w - md τ o w s)) (nI s) (nI i) = rec28 (u2 (u2 (u2 Tm 10 (2 * s) (nI (cK τ o w s / 6))) 10 (2 * s + 1) (nI (cK τ o w s % 6))) 0 21 (Tm 0 21 + nI (mk τ s (cK τ o w s)))) (nI o) (nI (w - md τ o w (s + 1))) (nI (s + 1)) := by
  have h24 := sS_24 hm.1
  have v0 := md_ok hv0 s (by omega)
  obtain ⟨c1, c2, c3, -, c5⟩ := ck_ok hs v0
  have hck : ck τ o s (w - md τ o w s) = cK τ o w s := rfl
  rw [hck] at c1 c2 c3 c5
  have vb := PV_le (o := o) hm.1 (sS τ - s) (w - md τ o w s)
  have gl : ∀ i, gS τ o s (w - md τ o w s) i < 2 ^ 18 := fun i => by
    unfold gS gP up
    have := PV_le (o := o) hm.1 (sS τ - (s + 1)) (w - md τ o w s - mk τ s i)
    have := ww_le hm.1 i
    split
    · split <;> omega
    · omega
  have wb : ∀ i, i < 36 → fX11_worthBy Tm (nI s) (nI o) (nI (w - md τ o w s)) (nI (i / 6)) (nI (i % 6)) = some (pI (gS τ o s (w - md τ o w s) i)) := fun i hi =>
    m_worthBy hm ho hs hi (show w - md τ o w s < 201 by omega) (B := PV τ o (sS τ - (s + 1))) (fun x hx => hT (s + 1) (by omega) (by omega) x (by omega)) (fun x => by
      have := PV_le (o := o) hm.1 (sS τ - (s + 1)) x
      omega)
  have tv : Tm 9 (201 * s + (w - md τ o w s)) = pI (PV τ o (sS τ - s) (w - md τ o w s)) := hT s (by omega) (by omega) _ (by omega)
  have q4 : (ix (nI (201 * s + (w - md τ o w s))) 5025) = True := by rw [e_ix (by omega)]; exact eq_true (by omega)
  have z4 := cl_nI (show 201 * s + (w - md τ o w s) < 2 ^ 31 by omega)
  intro k
  induction k with
  | zero =>
    intro i n hk hn
    obtain ⟨n, rfl, -⟩ := gt_s hn
    have ei : i = cK τ o w s := by omega
    subst ei
    rw [sX11_choose_45]
    unfold fX11_choose_45
    have q5 : (ix (nI (2 * s)) 48) = True := by rw [e_ix (by omega)]; exact eq_true (by omega)
    have q6 : (ix (nI (2 * s + 1)) 48) = True := by rw [e_ix (by omega)]; exact eq_true (by omega)
    have z5 := cl_nI (show 2 * s < 2 ^ 31 by omega)
    have z6 := cl_nI (show 2 * s + 1 < 2 ^ 31 by omega)
    have bo := m_pbread (RT_0 hm (FO_t (FO_u (Or.inr rfl)) (FO_u (Or.inr rfl)) : FO 0 Tm (u2 (u2 Tm 10 (2 * s) (nI (cK τ o w s / 6))) 10 (2 * s + 1) (nI (cK τ o w s % 6))))) hs c1 c3
    have ml := mk_le hm.1 s (cK τ o w s)
    simp only [lit, irm_nI (show cK τ o w s < 2 ^ 31 by omega) (show 0 < 6 by omega) (show 6 < 2 ^ 31 by omega), div_nI (show cK τ o w s < 2 ^ 31 by omega) (show 0 < 6 by omega) (show 6 < 2 ^ 31 by omega), wb _ c1, bd1_s, e_mul, e_add, q4, z4, if_true, tv, c2, q5, q6, z5, z6, bo, e_le (show w - md τ o w s < 2 ^ 31 by omega) (show mk τ s (cK τ o w s) < 2 ^ 31 by omega)]
    have st : w - md τ o w (s + 1) = w - md τ o w s - mk τ s (cK τ o w s) := (Nat.sub_sub _ _ _).symm
    by_cases c : w - md τ o w s ≤ mk τ s (cK τ o w s)
    · rw [if_pos c, st, Nat.sub_eq_zero_of_le c]
    · rw [if_neg c, st, e_sub (by omega)]
  | succ k ih =>
    intro i n hk hn
    obtain ⟨n, rfl, hn⟩ := gt_s hn
    rw [sX11_choose_45]
    unfold fX11_choose_45
    have ne := c5 i (by omega)
    have gi := gl i
    simp only [lit, irm_nI (show i < 2 ^ 31 by omega) (show 0 < 6 by omega) (show 6 < 2 ^ 31 by omega), div_nI (show i < 2 ^ 31 by omega) (show 0 < 6 by omega) (show 6 < 2 ^ 31 by omega), wb i (by omega), bd1_s, e_mul, e_add, q4, z4, if_true, tv, pI_eq (show gS τ o s (w - md τ o w s) i < 2 ^ 30 by omega) (show PV τ o (sS τ - s) (w - md τ o w s) < 2 ^ 30 by omega)]
    simp only [eq_false ne, if_false]
    exact ih (i + 1) n (by omega) (by omega)
theorem m_28 (ho : o < 2) (hw2 : w < 201) (hv0 : PV τ o (sS τ) w ≠ 0) : ∀ k s n Tm, s + k = sS τ → k < n → RT Tm τ → Mt τ o w 0 Tm → Ct τ o w s Tm → ∃ Ta, lX11_choose_28 n Tm (nI o) (nI (w - md τ o w s)) (nI s) = some (nI 1, Ta) ∧ FO 0 Tm Ta ∧ Mt τ o w 0 Ta ∧ Ct τ o w (sS τ) Ta := by
  intro k
  induction k with
  | zero =>
    intro s n Tm hk hn hm hT hc
    have h24 := sS_24 hm.1
    obtain ⟨n, rfl, -⟩ := gt_s hn
    rw [sX11_choose_28]
    unfold fX11_choose_28
    rw [hm.2.1, hm.2.2.1, e_mul]
    have e : s = sS τ := by omega
    subst e
    rw [if_pos (by rw [e_le (show tN τ * tH τ < 2 ^ 31 from by have := h24.1; unfold sS at this; omega) (by omega)]; exact Nat.le_refl _)]
    exact ⟨Tm, rfl, FO_r _ _, hT, hc⟩
  | succ k ih =>
    intro s n Tm hk hn hm hT hc
    have h24 := sS_24 hm.1
    obtain ⟨n, rfl, hn⟩ := gt_s hn
    rw [sX11_choose_28]
    unfold fX11_choose_28
    rw [hm.2.1, hm.2.2.1, e_mul]
    have hss : tN τ * tH τ = sS τ := rfl
    rw [hss, if_neg (by rw [e_le (by omega) (by omega)]; omega)]
    simp only [lit]
    have v0 := md_ok hv0 s (by omega)
    have c1 := (ck_ok (show s < sS τ by omega) v0).1
    rw [m_45 (lX11_choose_28 n) hm ho hw2 (by omega) hT hv0 (cK τ o w s) 0 fu (Nat.zero_add _) (fu_gt (by
      have : cK τ o w s < 36 := c1
      omega)), hc.1, e_add]
    have fo : FO 0 Tm (u2 (u2 (u2 Tm 10 (2 * s) (nI (cK τ o w s / 6))) 10 (2 * s + 1) (nI (cK τ o w s % 6))) 0 21 (nI (md τ o w s + mk τ s (cK τ o w s)))) := FO_t (FO_t (FO_u (Or.inr rfl)) (FO_u (Or.inr rfl))) (FO_u (Or.inr rfl))
    obtain ⟨Ta, e1, e2, e3, e4⟩ := ih (s + 1) n _ (by omega) (by omega) (RT_0 hm fo) (fun s' h1 h2 x hx => by
      rw [u2_ap, if_neg (by omega), u2_ap, if_neg (by omega), u2_ap, if_neg (by omega)]
      exact hT s' h1 h2 x hx) ⟨by rw [u2_same]; rfl, fun s' hs' => by
      constructor
      · rw [u2_ap, if_neg (by omega), u2_ap, if_neg (by omega), u2_ap]
        by_cases c : s' = s
        · rw [if_pos ⟨rfl, by rw [c]⟩, c]
        · rw [if_neg (by omega)]; exact (hc.2 s' (by omega)).1
      · rw [u2_ap, if_neg (by omega), u2_ap]
        by_cases c : s' = s
        · rw [if_pos ⟨rfl, by rw [c]⟩, c]
        · rw [if_neg (by omega), u2_ap, if_neg (by omega)]; exact (hc.2 s' (by omega)).2⟩
    exact ⟨Ta, e1, FO_t fo e2, e3, e4⟩
theorem m_choose (hm : RT Tm τ) (ho : o < 2) (hw2 : w < 201) : ∃ Ta, fX11_choose Tm (nI o) (nI w) = some (nI (if PV τ o (sS τ) w = 0 then 0 else 1), Ta) ∧ FO 0 Tm Ta ∧ (PV τ o (sS τ) w ≠ 0 → Mt τ o w 0 Ta ∧ Ct τ o w (sS τ) Ta) := by
  have h24 := sS_24 hm.1
  obtain ⟨T1, e1, t1, f1⟩ := m_lay hm ho hw2
  have vb := PV_le (o := o) hm.1 (sS τ) w
  unfold fX11_choose
  have q4 : (ix (nI w) 5025) = True := by rw [e_ix (by omega)]; exact eq_true (by omega)
  have z4 := cl_nI (show w < 2 ^ 31 by omega)
  have tv : T1 9 w = pI (PV τ o (sS τ) w) := by
    have := t1 0 (by omega) (by omega) w (Nat.le_refl _)
    rw [show 201 * 0 + w = w by omega] at this
    exact this
  simp only [m1_eq]
  simp only [lit, e1, bd1_s, q4, z4, if_true, tv, pI_m1 (show PV τ o (sS τ) w < 2 ^ 30 by omega)]
  by_cases c : PV τ o (sS τ) w = 0
  · simp only [eq_true c, if_true]
    exact ⟨T1, rfl, f1, fun h => absurd c h⟩
  · simp only [eq_false c, if_false]
    have fo : FO 0 T1 (u2 T1 0 21 (nI 0)) := FO_u (Or.inr rfl)
    obtain ⟨Ta, g1, g2, g3, g4⟩ := m_28 (τ := τ) ho hw2 c (sS τ) 0 fu (u2 T1 0 21 (nI 0)) (by omega) (fu_gt (by omega)) (RT_0 hm (FO_t f1 fo)) (fun s' h1 h2 x hx => by
      rw [u2_ap, if_neg (by omega)]
      exact t1 s' h1 h2 x hx) ⟨u2_same _ _ _ _, fun s' hs' => by omega⟩
    exact ⟨Ta, g1, FO_t f1 (FO_t fo g2), fun _ => ⟨g3, g4⟩⟩
theorem w_201 (x : Int32) : fX10_within x (nI 0) (nI 200) = some (bI (ok x 201)) := within_ok (n := 201) (by omega) (by omega)
theorem n_201 (x : Int32) : fX11_in x.toInt64 0 200 = some (bI (ok x 201)) := in_ok (by decide)
theorem c_isPlan (x y : Int32) : fX10_isPlanAsked x y = some (bI (ok x 2 && ok y 201)) := by
  unfold fX10_isPlanAsked
  simp only [lit, w_2, w_201, bd1_s, bI_0]
  cases ok x 2 <;> cases ok y 201 <;> simp [bI]
theorem m_isPlan (x y : Int32) : fX11_isPlan x y = some (bI (ok x 2 && ok y 201)) := by
  unfold fX11_isPlan
  simp only [n_2, n_201, lit, bd1_s, bI_0]
  cases ok x 2 <;> cases ok y 201 <;> simp [bI]
theorem PR_0 {Tp Ta : Gp} (h : PR Tp τ) (f : ∀ c, c ≠ 0 → Ta c = Tp c) : PR Ta τ := by
  intro o' ho'
  unfold Pt
  rw [f 3 (by omega), f 1 (by omega)]
  exact h o' ho'
theorem r_plan {Tt Tp : Gp} (Te : Gp) (ht : CT Tt τ) (hm : RT Tm τ) (h : PR Tp τ) (x1 x2 x3 : Int32) : ∃ r Ta Tn, fX10_plan Te Tp Tt x1 x2 x3 = some (r, Ta) ∧ fX11_plan Tm x1 x2 x3 = some (r, Tn) ∧ FO 0 Tm Tn ∧ PR Ta τ := by
  have hN := ht.1.1
  have hH := ht.1.2.1
  have h24 := sS_24 ht.1
  have t0 : Tt 0 0 = nI (tN τ) := ht.2.1
  have t1 : Tt 0 1 = nI (tH τ) := ht.2.2.1
  unfold fX10_plan fX11_plan
  simp only [m1_eq]
  simp only [n_2, lit, w_2, c_isPlan, m_isPlan, bd1_s, bI_0]
  cases h1 : ok x1 2
  · exact ⟨_, Tp, Tm, by simp; rfl, by simp, FO_r _ _, h⟩
  cases h2 : ok x2 201
  · exact ⟨_, Tp, Tm, by simp; rfl, by simp, FO_r _ _, h⟩
  cases h3 : ok x3 2
  · exact ⟨_, Tp, Tm, by simp; rfl, by simp, FO_r _ _, h⟩
  obtain ⟨o, ho, rfl⟩ := ok_ex h1 (by omega)
  obtain ⟨w, hw2, rfl⟩ := ok_ex h2 (by omega)
  obtain ⟨j, hj, rfl⟩ := ok_ex h3 (by omega)
  have vb := PV_le (o := o) hm.1 (sS τ) w
  obtain ⟨Ta, a1, a2, a3⟩ := c_great Tp ht h ho hw2
  obtain ⟨Tn, b1, b2, b3⟩ := m_choose hm ho hw2
  have q4 : (ix (nI w) 5025) = True := by rw [e_ix (by omega)]; exact eq_true (by omega)
  have z4 := cl_nI (show w < 2 ^ 31 by omega)
  simp only [Bool.and_self, Bool.true_eq_false, if_false, a1, b1, bd2_s, pI_m1 (show PV τ o (sS τ) w < 2 ^ 30 by omega), e_eq (show j < 2 ^ 31 by omega) (show 0 < 2 ^ 31 by omega), q4, z4, if_true]
  by_cases c : PV τ o (sS τ) w = 0
  · simp only [eq_true c, if_true]
    refine ⟨-nI 1, Ta, Tn, ?_, rfl, b2, a2⟩
    rw [c]
    split <;> rfl
  · have q5 : (nI 1 = nI 0) = False := by rw [e_eq (by omega) (by omega)]; exact eq_false (by omega)
    simp only [eq_false c, if_false, q5]
    obtain ⟨m1, m2⟩ := b3 c
    by_cases d : j = 0
    · rw [if_pos d, if_pos d]
      refine ⟨_, Ta, Tn, rfl, ?_, b2, a2⟩
      have := m1 0 (by omega) (by omega) w (Nat.le_refl _)
      rw [show 201 * 0 + w = w by omega] at this
      rw [this]
      rfl
    · rw [if_neg d, if_neg d]
      obtain ⟨Tb, g1, g2, -⟩ := c_follow ht Ta (lp := tN τ - 1) (lh := tH τ - 1) ho (by omega) (by omega) hw2 a3 c
      rw [t0, t1, e_sub (by omega), e_sub (by omega), g1, m2.1]
      have es : (tN τ - 1) * tH τ + (tH τ - 1) + 1 = sS τ := by
        unfold sS
        rw [Nat.sub_mul]
        have : tH τ ≤ tN τ * tH τ := Nat.le_mul_of_pos_left _ hN.1
        omega
      rw [es]
      exact ⟨_, Tb, Tn, rfl, rfl, b2, PR_0 a2 g2⟩
theorem r_planned {Tt Tp : Gp} (Te : Gp) (ht : CT Tt τ) (hm : RT Tm τ) (h : PR Tp τ) (x1 x2 x3 x4 x5 : Int32) : ∃ r Ta Tn, fX10_planned Te Tp Tt x1 x2 x3 x4 x5 = some (r, Ta) ∧ fX11_planned Tm x1 x2 x3 x4 x5 = some (r, Tn) ∧ FO 0 Tm Tn ∧ PR Ta τ := by
  have hN := ht.1.1
  have hH := ht.1.2.1
  have h24 := sS_24 ht.1
  unfold fX10_planned fX11_planned
  simp only [m1_eq]
  simp only [lit, c_isSlot Te ht, m_isValley, m_isPair hm, m_isHour hm, c_isPlan, m_isPlan, bd1_s, bI_0]
  cases h3 : ok x3 2
  · exact ⟨_, Tp, Tm, by simp; rfl, by simp, FO_r _ _, h⟩
  cases h4 : ok x4 (tN τ)
  · exact ⟨_, Tp, Tm, by simp; rfl, by simp, FO_r _ _, h⟩
  cases h5 : ok x5 (tH τ)
  · exact ⟨_, Tp, Tm, by simp; rfl, by simp, FO_r _ _, h⟩
  cases h1 : ok x1 2
  · exact ⟨_, Tp, Tm, by simp; rfl, by simp, FO_r _ _, h⟩
  cases h2 : ok x2 201
  · exact ⟨_, Tp, Tm, by simp; rfl, by simp, FO_r _ _, h⟩
  obtain ⟨o, ho, rfl⟩ := ok_ex h1 (by omega)
  obtain ⟨w, hw2, rfl⟩ := ok_ex h2 (by omega)
  obtain ⟨v, hv, rfl⟩ := ok_ex h3 (by omega)
  obtain ⟨p, hp, rfl⟩ := ok_ex h4 (by omega)
  obtain ⟨hr, hh, rfl⟩ := ok_ex h5 (by omega)
  have vb := PV_le (o := o) hm.1 (sS τ) w
  obtain ⟨Ta, a1, a2, a3⟩ := c_great Tp ht h ho hw2
  obtain ⟨Tn, b1, b2, b3⟩ := m_choose hm ho hw2
  simp only [Bool.and_self, Bool.true_eq_false, if_false, a1, b1, bd2_s, pI_m1 (show PV τ o (sS τ) w < 2 ^ 30 by omega), e_eq (show v < 2 ^ 31 by omega) (show 0 < 2 ^ 31 by omega)]
  by_cases c : PV τ o (sS τ) w = 0
  · simp only [eq_true c, if_true]
    exact ⟨-nI 1, Ta, Tn, rfl, rfl, b2, a2⟩
  · have q5 : (nI 1 = nI 0) = False := by rw [e_eq (by omega) (by omega)]; exact eq_false (by omega)
    simp only [eq_false c, if_false, q5]
    obtain ⟨m1, m2⟩ := b3 c
    obtain ⟨Tb, g1, g2, g3, g4⟩ := c_follow ht Ta (lp := p) (lh := hr) ho hp hh hw2 a3 c
    have tn := (RT_0 hm b2).2.2.1
    have lt : p * tH τ + hr < sS τ := by
      have le : (p + 1) * tH τ ≤ sS τ := Nat.mul_le_mul_right _ hp
      rw [Nat.succ_mul] at le
      omega
    have q6 : (ix (nI (2 * (tH τ * p + hr) + v)) 48) = True := by
      rw [Nat.mul_comm (tH τ) p, e_ix (by omega)]; exact eq_true (by omega)
    have z6 : (nI (2 * (tH τ * p + hr) + v)).toNatClampNeg = 2 * (p * tH τ + hr) + v := by
      rw [Nat.mul_comm (tH τ) p, cl_nI (by omega)]
    have m3 := m2.2 _ lt
    rw [g1, tn]
    simp only [e_mul, e_add, bd2_s, q6, if_true, z6, g3, g4]
    have v2 : v = 0 ∨ v = 1 := by omega
    rcases v2 with rfl | rfl
    · rw [if_pos rfl, Nat.add_zero, m3.1]
      exact ⟨_, Tb, Tn, rfl, rfl, b2, PR_0 a2 g2⟩
    · rw [if_neg (by omega), m3.2]
      exact ⟨_, Tb, Tn, rfl, rfl, b2, PR_0 a2 g2⟩
end PLN
