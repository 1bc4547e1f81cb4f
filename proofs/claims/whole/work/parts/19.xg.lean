section LINE3
variable {Tx Tm Tk Tl T0 Tv : Gp} {len : Nat} {t : Nat → Nat} {b : Nat} {q : Nat} {τ : TD}
theorem neN {a b : Nat} (ha : a < 1000) (hb : b < 1000) (h : a ≠ b) : (nI a = nI b) = False := by rw [e_eq (by omega) (by omega)]; exact eq_false h
theorem L_wk (h : XT len t Tx Tm) (hk : KK len t Tk Tm b) (hq : q < 10) (h5 : Tm 0 5 = nI q) (h4 : Tm 4 (6 * q) = nI 1) (hT : Tl 0 1 = -nI 1) (ha : fX8_advance T0 Tx = some Tk) (hc : CT Tv τ) : LF q Tm (fX1_readWork Tl T0 Tx Tv) (fX11_readsRest Tm (nI 1)) ∨ LO len t Tx Tl q τ Tm (fX1_readWork Tl T0 Tx Tv) (fX11_readsRest Tm (nI 1)) := by
  have hl := h.1
  have hb := hk.1
  have n10 : (nI 1 = nI 0) = False := neN (by omega) (by omega) (by omega)
  unfold fX1_readWork fX11_readsRest
  rw [ha]
  simp only [bd1_s, lq, n10, if_true, if_false]
  rcases tk h hk (l := 0) (m := 4) (k := 0) (by omega) (by omega) (by omega) hq h5 hT with ⟨v1, K1, M1, b1, a1, a2, a3, a4, X1, a5, a6, a7, a8⟩ | ⟨r, e1, e2⟩
  · rw [a3, a4]
    simp only [bd3_s, bd2_s, n10, if_false]
    have F1 := FR_q (FQ_r q Tm) (show 0 ≤ 4 by omega) a8
    have hb1 := a5.1
    rcases tk X1 a5 (l := 0) (m := 3) (k := 1) (by omega) (by omega) (by omega) hq a6 hT with ⟨v2, K2, M2, b2, c1, c2, c3, c4, X2, c5, c6, c7, c8⟩ | ⟨r, e1, e2⟩
    · rw [c3, c4]
      simp only [bd3_s, bd2_s, n10, if_false]
      have F2 := FR_q F1 (show 1 ≤ 4 by omega) c8
      have hb2 := c5.1
      rcases tkb X2 c5 (k := 2) (by omega) hq c6 hT with ⟨g1, w1, K3, M3, b3, d2, d3, d4, X3, d5, d6, d7, d8⟩ | ⟨r, e1, e2⟩
      · rw [d3, d4]
        simp only [bd3_s, bd2_s, n10, if_false]
        have F3 := FR_q F2 (show 2 ≤ 4 by omega) d8
        have hb3 := d5.1
        rcases tkb X3 d5 (k := 3) (by omega) hq d6 hT with ⟨g2, w2, K4, M4, b4, i2, i3, i4, X4, i5, i6, i7, i8⟩ | ⟨r, e1, e2⟩
        · rw [i3, i4]
          simp only [bd3_s, bd2_s, n10, if_false]
          have F4 := FR_q F3 (show 3 ≤ 4 by omega) i8
          have hb4 := i5.1
          rcases tk X4 i5 (l := 0) (m := 20) (k := 4) (by omega) (by omega) (by omega) hq i6 hT with ⟨v5, K5, M5, b5, j1, j2, j3, j4, X5, j5, j6, j7, j8⟩ | ⟨r, e1, e2⟩
          · right
            have F5 := FR_q F4 (show 4 ≤ 4 by omega) j8
            obtain ⟨Ta, Tb, Tc, p1, p2, p3, p4⟩ := c_tellWk hc (w := v1) (c := v2) (c0 := g1) (b0 := w1) (c1 := g2) (b1 := w2) (x := v5) (by omega) (by omega) (by omega) (by omega) (by omega)
            rw [j3, j4]
            simp only [lq] at p2 p3
            simp only [bd3_s, bd2_s, n10, if_false, hT, if_true, p1, p2, p3, bd1_s]
            refine ⟨K5, Tc, M5, b5, _, rfl, rfl, X5, j5, p4, Or.inr (Or.inl ⟨v1, v2, g1, w1, g2, w2, v5, by omega, by omega, d2, i2, j2, ?_, ?_, ?_, ?_, ?_, j7, rfl⟩), F5⟩
            · rw [F5 4 _ (by omega) (by omega)]; exact h4
            · rw [j8 4 _ (by omega) (by omega), i8 4 _ (by omega) (by omega), d8 4 _ (by omega) (by omega), c8 4 _ (by omega) (by omega)]; exact a7
            · rw [j8 4 _ (by omega) (by omega), i8 4 _ (by omega) (by omega), d8 4 _ (by omega) (by omega)]; exact c7
            · rw [j8 4 _ (by omega) (by omega), i8 4 _ (by omega) (by omega)]; exact d7
            · rw [j8 4 _ (by omega) (by omega)]; exact i7
          · left
            rw [e1, e2]
            simp only [bd3_s, bd2_s, m1f (show b4 < 2 ^ 31 by omega), if_false, if_true]
            exact ⟨_, _, _, _, b4, by omega, rfl, u2_same _ _ _ _, rfl, i5.2.2.2.2.2.1, F4⟩
        · left
          rw [e1, e2]
          simp only [bd3_s, bd2_s, c_afterb _ _ (show b3 < 2 ^ 31 by omega), m1f (show b3 < 2 ^ 31 by omega), if_false, if_true]
          exact ⟨_, _, _, _, b3, by omega, rfl, u2_same _ _ _ _, rfl, d5.2.2.2.2.2.1, F3⟩
      · left
        rw [e1, e2]
        simp only [bd3_s, bd2_s, c_afterb _ _ (show b2 < 2 ^ 31 by omega), m1f (show b2 < 2 ^ 31 by omega), if_false, if_true]
        exact ⟨_, _, _, _, b2, by omega, rfl, u2_same _ _ _ _, rfl, c5.2.2.2.2.2.1, F2⟩
    · left
      rw [e1, e2]
      simp only [bd3_s, bd2_s, c_afterb _ _ (show b1 < 2 ^ 31 by omega), m1f (show b1 < 2 ^ 31 by omega), if_false, if_true]
      exact ⟨_, _, _, _, b1, by omega, rfl, u2_same _ _ _ _, rfl, a5.2.2.2.2.2.1, F1⟩
  · left
    rw [e1, e2]
    simp only [bd3_s, bd2_s, c_afterb _ _ (show b < 2 ^ 31 by omega), m1f (show b < 2 ^ 31 by omega), if_false, if_true]
    exact ⟨_, _, _, _, b, by omega, rfl, u2_same _ _ _ _, rfl, hk.2.2.2.2.2.1, FQ_r _ _⟩
theorem L_mn (h : XT len t Tx Tm) (hk : KK len t Tk Tm b) (hq : q < 10) (h5 : Tm 0 5 = nI q) (h4 : Tm 4 (6 * q) = nI 3) (hT : Tl 0 1 = -nI 1) (ha : fX8_advance T0 Tx = some Tk) (hc : CT Tv τ) (h16 : Tm 0 16 = nI (tN τ)) (h17 : Tm 0 17 = nI (tH τ)) (h8 : ∀ w v, w < 5 → v < 2 → Tm 8 (2 * w + v) = bI (cn τ v w)) : LF q Tm (fX1_readMeant Tl T0 Tx Tv) (fX11_readsRest Tm (nI 3)) ∨ LO len t Tx Tl q τ Tm (fX1_readMeant Tl T0 Tx Tv) (fX11_readsRest Tm (nI 3)) := by
  have hl := h.1
  have hb := hk.1
  have hN := hc.1.1
  have hH := hc.1.2.1
  have t0 : Tv 0 0 = nI (tN τ) := hc.2.1
  have t1 : Tv 0 1 = nI (tH τ) := hc.2.2.1
  have n10 : (nI 1 = nI 0) = False := neN (by omega) (by omega) (by omega)
  unfold fX1_readMeant fX11_readsRest
  rw [ha, t0, t1]
  simp only [bd1_s, lq, neN (show 3 < 1000 by omega) (show 0 < 1000 by omega) (by omega), neN (show 3 < 1000 by omega) (show 1 < 1000 by omega) (by omega), neN (show 3 < 1000 by omega) (show 2 < 1000 by omega) (by omega), if_true, if_false, e_sub hN.1, e_sub hH.1]
  rcases tk h hk (l := 0) (m := 1) (k := 0) (by omega) (by omega) (by omega) hq h5 hT with ⟨v1, K1, M1, b1, a1, a2, a3, a4, X1, a5, a6, a7, a8⟩ | ⟨r, e1, e2⟩
  · rw [a3, a4]
    simp only [bd3_s, bd2_s, n10, if_false]
    have F1 := FR_q (FQ_r q Tm) (show 0 ≤ 4 by omega) a8
    have hb1 := a5.1
    rcases tk X1 a5 (l := 0) (m := 1) (k := 1) (by omega) (by omega) (by omega) hq a6 hT with ⟨v2, K2, M2, b2, c1, c2, c3, c4, X2, c5, c6, c7, c8⟩ | ⟨r, e1, e2⟩
    · have F2 := FR_q F1 (show 1 ≤ 4 by omega) c8
      have hb2 := c5.1
      have s16 : M2 0 16 = nI (tN τ) := by rw [F2 0 16 (by omega) (by omega)]; exact h16
      rw [c3, c4]
      simp only [bd3_s, bd2_s, n10, if_false, s16, e_sub hN.1]
      rcases tk X2 c5 (l := 0) (m := tN τ - 1) (k := 2) (by omega) (by omega) (by omega) hq c6 hT with ⟨v3, K3, M3, b3, d1, d2, d3, d4, X3, d5, d6, d7, d8⟩ | ⟨r, e1, e2⟩
      · have F3 := FR_q F2 (show 2 ≤ 4 by omega) d8
        have hb3 := d5.1
        have s17 : M3 0 17 = nI (tH τ) := by rw [F3 0 17 (by omega) (by omega)]; exact h17
        rw [d3, d4]
        simp only [bd3_s, bd2_s, n10, if_false, s17, e_sub hH.1]
        rcases tk X3 d5 (l := 0) (m := tH τ - 1) (k := 3) (by omega) (by omega) (by omega) hq d6 hT with ⟨v4, K4, M4, b4, i1, i2, i3, i4, X4, i5, i6, i7, i8⟩ | ⟨r, e1, e2⟩
        · have F4 := FR_q F3 (show 3 ≤ 4 by omega) i8
          have hb4 := i5.1
          rw [i3, i4]
          simp only [bd3_s, bd2_s, n10, if_false]
          unfold fX11_readsWork
          simp only [lq]
          rcases tk X4 i5 (l := 0) (m := 5) (k := 4) (by omega) (by omega) (by omega) hq i6 hT with ⟨v5, K5, M5, b5, j1, j2, j3, j4, X5, j5, j6, j7, j8⟩ | ⟨r, e1, e2⟩
          · have F5 := FR_q F4 (show 4 ≤ 4 by omega) j8
            have q5 : (ix (nI (6 * q + 1 + 4)) 60) = True := by rw [e_ix (by omega)]; exact eq_true (by omega)
            have q2 : (ix (nI (6 * q + 1 + 1)) 60) = True := by rw [e_ix (by omega)]; exact eq_true (by omega)
            have z5 := cl_nI (show 6 * q + 1 + 4 < 2 ^ 31 by omega)
            have z2 := cl_nI (show 6 * q + 1 + 1 < 2 ^ 31 by omega)
            have m2 : M5 4 (6 * q + 1 + 1) = nI v2 := by
              rw [j8 4 _ (by omega) (by omega), i8 4 _ (by omega) (by omega), d8 4 _ (by omega) (by omega)]; exact c7
            have cb := c_canBeDone hc (v := v2) (w := v5) (by omega) j2
            rw [j3, j4, i6]
            simp only [bd3_s, bd2_s, n10, if_false, hT, if_true, cb, bd1_s, e_mul, e_add, q5, q2, z5, z2, j7, m2, e_le (show 5 < 2 ^ 31 by omega) (show v5 < 2 ^ 31 by omega), bI_0]
            have okk : cn τ v2 v5 = true → LO len t Tx Tl q τ Tm (if cn τ v2 v5 = false then some (u2 Tl 0 1 (K4 0 1), K5, Tv) else bd1 (fX10_slotIndex (nI v2) (nI v3) (nI v4)) fun r25 => bd1 (fX9_tellMeant Tv (nI v1) r25 (nI v5)) fun Tv_27 => some (Tl, K5, Tv_27)) (some (nI 1, M5)) := by
              intro e
              obtain ⟨Tb, p1, p2⟩ := c_tellMeant hc (o := v1) (s := (v2 * 6 + v3) * 4 + v4) (w := v5) (by omega) (by omega) j2
              unfold fX10_slotIndex fX10_personIndex
              simp only [lq, bd1_s, e_mul, e_add, p1]
              rw [if_neg (by rw [e]; simp)]
              refine ⟨K5, Tb, M5, b5, _, rfl, rfl, X5, j5, p2, Or.inr (Or.inr (Or.inr (Or.inl ⟨v1, v2, v3, v4, v5, by omega, by omega, by omega, by omega, j2, ?_, ?_, ?_, ?_, ?_, j7, rfl⟩))), F5⟩
              · rw [F5 4 _ (by omega) (by omega)]; exact h4
              · rw [j8 4 _ (by omega) (by omega), i8 4 _ (by omega) (by omega), d8 4 _ (by omega) (by omega), c8 4 _ (by omega) (by omega)]; exact a7
              · exact m2
              · rw [j8 4 _ (by omega) (by omega), i8 4 _ (by omega) (by omega)]; exact d7
              · rw [j8 4 _ (by omega) (by omega)]; exact i7
            by_cases w5 : 5 ≤ v5
            · right
              simp only [eq_true w5, if_true]
              exact okk (by rw [show v5 = 5 by omega]; exact hc.1.2.2.2.2.2.2.2.1 v2)
            · simp only [eq_false w5, if_false]
              have q12 : (ix (nI (2 * v5 + v2)) 12) = True := by rw [e_ix (by omega)]; exact eq_true (by omega)
              have z12 := cl_nI (show 2 * v5 + v2 < 2 ^ 31 by omega)
              have m8 : M5 8 (2 * v5 + v2) = bI (cn τ v2 v5) := by
                rw [F5 8 _ (by omega) (by omega)]; exact h8 v5 v2 (by omega) (by omega)
              simp only [q12, z12, if_true, m8, bI_0]
              cases e : cn τ v2 v5
              · left
                simp only [if_true]
                refine ⟨_, _, _, _, b4, by omega, rfl, ?_, rfl, ?_, fun c i f g => ?_⟩
                · rw [u2_same]; exact i5.2.1
                · rw [u2_same]; exact i5.2.2.2.2.2.1
                · rw [u2_ap, if_neg (by omega)]; exact F5 c i f g
              · right
                rw [e] at okk
                have ft : (true = false) = False := by simp
                simp only [ft, if_false] at okk ⊢
                exact okk trivial
          · left
            rw [e1, e2]
            simp only [bd3_s, bd2_s, m1f (show b4 < 2 ^ 31 by omega), if_false, if_true]
            exact ⟨_, _, _, _, b4, by omega, rfl, u2_same _ _ _ _, rfl, i5.2.2.2.2.2.1, F4⟩
        · left
          rw [e1, e2]
          simp only [bd3_s, bd2_s, c_afterb _ _ (show b3 < 2 ^ 31 by omega), m1f (show b3 < 2 ^ 31 by omega), if_false, if_true]
          exact ⟨_, _, _, _, b3, by omega, rfl, u2_same _ _ _ _, rfl, d5.2.2.2.2.2.1, F3⟩
      · left
        rw [e1, e2]
        simp only [bd3_s, bd2_s, c_afterb _ _ (show b2 < 2 ^ 31 by omega), m1f (show b2 < 2 ^ 31 by omega), if_false, if_true]
        exact ⟨_, _, _, _, b2, by omega, rfl, u2_same _ _ _ _, rfl, c5.2.2.2.2.2.1, F2⟩
    · left
      rw [e1, e2]
      simp only [bd3_s, bd2_s, c_afterb _ _ (show b1 < 2 ^ 31 by omega), m1f (show b1 < 2 ^ 31 by omega), if_false, if_true]
      exact ⟨_, _, _, _, b1, by omega, rfl, u2_same _ _ _ _, rfl, a5.2.2.2.2.2.1, F1⟩
  · left
    rw [e1, e2]
    simp only [bd3_s, bd2_s, c_afterb _ _ (show b < 2 ^ 31 by omega), m1f (show b < 2 ^ 31 by omega), if_false, if_true]
    exact ⟨_, _, _, _, b, by omega, rfl, u2_same _ _ _ _, rfl, hk.2.2.2.2.2.1, FQ_r _ _⟩
end LINE3
