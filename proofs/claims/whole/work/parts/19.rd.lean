section SLIPR
variable {Tm Tr : Gp}
theorem EqRR {L : Nat} {Ta Tn : Gp} (hL : L ≤ 40) {b : Nat → Bool} (h0 : Ta 0 0 = nI L) (h1 : Tn 0 29 = nI L) (hb : ∀ i, i < L → Ta 1 i = bI (b i)) (hc : ∀ i, i < L → Tn 17 i = bI (b i)) : RR Ta Tn := ⟨L, hL, h0, h1, fun i hi => ⟨b i, hb i hi, hc i hi⟩⟩
theorem FO_18 {Ta : Gp} (h : ∀ d, d ≠ 18 → Ta d = Tm d) : FO 0 Tm Ta := by
  intro c i h1 _
  by_cases hc : c = 18
  · exact absurd (by rw [hc]; rfl) h1
  · rw [h c hc]
theorem m_slips0 {b : Nat → Bool} {L a c : Nat} (hL : L ≤ 40) (ha : a ≤ 9) (hc : c ≤ 9) (h0 : Tm 0 29 = nI L) (hb : ∀ i, i < L → Tm 17 i = bI (b i)) (md : Int32) : ∃ m Ta, lX11_slips_73 fu (u2 (u2 Tm 18 (2 * L) (nI 0)) 18 (2 * L + 1) (nI 0)) (nI a) (nI c) md (nI L - nI 1) = lX11_slips_73 (m + 1) Ta (nI a) (nI c) md (pN 0) ∧ tM b a c L 0 Ta ∧ ∀ d, d ≠ 18 → Ta d = Tm d := by
  obtain ⟨m, Ta, e, g, f⟩ := m_slips73 hL ha hc md L fu (u2 (u2 Tm 18 (2 * L) (nI 0)) 18 (2 * L + 1) (nI 0)) (Nat.le_refl _) (fu_gt (by omega)) (fun i hi => by rw [u2_c (by omega), u2_c (by omega)]; exact hb i hi) (fun s w h1 h2 h3 => by
    have hs : s = L := by omega
    have hz : sT b a c L L w = 0 := by
      unfold sT mS
      rw [kT_L, kT_L]
      split <;> omega
    rw [hs, hz, u2_ap, u2_ap]
    have hw2 : w = 0 ∨ w = 1 := by omega
    rcases hw2 with rfl | rfl
    · rw [if_neg (by omega), if_pos (by omega)]; rfl
    · rw [if_pos (by omega)]; rfl)
  refine ⟨m, Ta, e, g, fun d hd => ?_⟩
  rw [f d hd, u2_c hd, u2_c hd]
theorem r_slips (Te : Gp) (h : RR Tr Tm) (x1 x2 x3 : Int32) : ∃ r Ta Tn, fX10_slips Te Tr x1 x2 x3 = some (r, Ta) ∧ fX11_slips Tm x1 x2 x3 = some (r, Tn) ∧ FO 0 Tm Tn ∧ RR Ta Tn := by
  have hself := h
  obtain ⟨L, hL, h0, h1, hr⟩ := h
  have hb : ∀ i, i < L → Tr 1 i = bI (decide (Tr 1 i = nI 1)) := by
    intro i hi
    obtain ⟨b, e, -⟩ := hr i hi
    rw [e]
    cases b <;> rfl
  have hb2 : ∀ i, i < L → Tm 17 i = bI (decide (Tr 1 i = nI 1)) := by
    intro i hi
    obtain ⟨b, e, f⟩ := hr i hi
    rw [f, e]
    cases b <;> rfl
  unfold fX10_slips fX11_slips
  rw [h1]
  simp only [lit]
  rw [w_rg x1 (by omega) (by omega), w_rg x2 (by omega) (by omega), n_rg x1 (a := 1) (b := 9) (by decide) (by decide), n_rg x2 (a := 1) (b := 9) (by decide) (by decide), in_ok (n := 3) (x := x3) (by decide)]
  simp only [bd1_s, bI_0]
  cases hx1 : rg x1 1 9
  · exact ⟨_, Tr, Tm, by simp; rfl, by simp, FO_r _ _, hself⟩
  cases hx2 : rg x2 1 9
  · exact ⟨_, Tr, Tm, by simp; rfl, by simp, FO_r _ _, hself⟩
  cases hx3 : ok x3 3
  · have e0 := ok_ne hx3 (show 0 < 3 by omega) (by omega)
    have e1 := ok_ne hx3 (show 1 < 3 by omega) (by omega)
    have e2 := ok_ne hx3 (show 2 < 3 by omega) (by omega)
    simp only [e0, e1, e2]
    exact ⟨_, Tr, Tm, by simp; rfl, by simp, FO_r _ _, hself⟩
  obtain ⟨a, ha0, ha, rfl⟩ := rg_ex hx1 (by omega)
  obtain ⟨c, hc0, hc, rfl⟩ := rg_ex hx2 (by omega)
  obtain ⟨md, hmd, rfl⟩ := ok_ex hx3 (by omega)
  obtain ⟨Ta, e1, g1, f1⟩ := c_reckon (Tr := Tr) hL ha hc h0 hb
  obtain ⟨m, Tn, e2, g2, f2⟩ := m_slips0 (Tm := Tm) hL ha hc h1 hb2 (nI md)
  have q1 : (ix (nI (2 * L)) 82) = True := by rw [e_ix (by omega)]; exact eq_true (by omega)
  have q2 : (ix (nI (2 * L + 1)) 82) = True := by rw [e_ix (by omega)]; exact eq_true (by omega)
  have z1 := cl_nI (show 2 * L < 2 ^ 31 by omega)
  have z2 := cl_nI (show 2 * L + 1 < 2 ^ 31 by omega)
  have hRR : RR Ta Tn := EqRR (b := fun i => decide (Tr 1 i = nI 1)) hL (by rw [f1 0 (by omega)]; exact h0) (by rw [f2 0 (by omega)]; exact h1) (fun i hi => by rw [f1 1 (by omega)]; exact hb i hi) (fun i hi => by rw [f2 17 (by omega)]; exact hb2 i hi)
  have hFO := FO_18 f2
  have l0 := kT_le (fun i => decide (Tr 1 i = nI 1)) (a := a) hc hL 0 0
  have p0 := kT_mod (fun i => decide (Tr 1 i = nI 1)) a c hL 0 0
  have t0 : Tn 18 0 = nI (eE (kT (fun i => decide (Tr 1 i = nI 1)) a c L 0 0)) := g2 0 0 (by omega) (by omega) (by omega)
  have be := eE_le (x := kT (fun i => decide (Tr 1 i = nI 1)) a c L 0 0) (by omega)
  simp only [e_mul, e_add, q1, q2, z1, z2, Bool.true_eq_false, if_true, if_false, e2, e_eq (show md < 2 ^ 31 by omega) (show 0 < 2 ^ 31 by omega), e_eq (show md < 2 ^ 31 by omega) (show 1 < 2 ^ 31 by omega), e_eq (show md < 2 ^ 31 by omega) (show 2 < 2 ^ 31 by omega)]
  rw [sX11_slips_73]
  unfold fX11_slips_73 fX6_leastCost fX6_fewestSlips fX6_firstSlip
  simp only [lit, m1_eq, pN_0, m1_lt, e1, bd2_s, if_true, e_le (show 2 < 2 ^ 31 by omega) (show md < 2 ^ 31 by omega), e_eq (show md < 2 ^ 31 by omega) (show 0 < 2 ^ 31 by omega)]
  rw [show (nI 0).toNatClampNeg = 0 from rfl, t0]
  have hmd3 : md = 0 ∨ md = 1 ∨ md = 2 := by omega
  rcases hmd3 with rfl | rfl | rfl
  · refine ⟨nI (kT (fun i => decide (Tr 1 i = nI 1)) a c L 0 0 / 64), Ta, Tn, ?_, ?_, hFO, hRR⟩
    · rw [if_pos rfl, div_nI (by omega) (by omega) (by omega)]
    · rw [if_neg (by omega), if_pos rfl, div_nI (by omega) (by omega) (by omega)]
      congr 3
      unfold eE
      omega
  · refine ⟨nI (kT (fun i => decide (Tr 1 i = nI 1)) a c L 0 0 % 64), Ta, Tn, ?_, ?_, hFO, hRR⟩
    · rw [if_neg (by omega), if_pos rfl, irm_nI (by omega) (by omega) (by omega)]
    · rw [if_neg (by omega), if_neg (by omega), irm_nI (by omega) (by omega) (by omega)]
      congr 3
      unfold eE
      omega
  · refine ⟨fQ (qQ (fun i => decide (Tr 1 i = nI 1)) a c L) L 0, Ta, Tn, ?_, ?_, hFO, hRR⟩
    · rw [if_neg (by omega), if_neg (by omega), if_pos rfl]
      by_cases hL0 : L = 0
      · subst hL0
        obtain ⟨n, hn⟩ := fu_ex
        rw [hn, show n + 99990 = n + 99989 + 1 from rfl, sX6_firstSlip_16]
        unfold fX6_firstSlip_16
        rw [f1 0 (by omega), h0, if_pos (by rw [e_le (by omega) (by omega)]; omega)]
        rfl
      · have := c_first (Tr := Ta) (b := fun i => decide (Tr 1 i = nI 1)) hL ha hc (by rw [f1 0 (by omega)]; exact h0) (fun i hi => by rw [f1 1 (by omega)]; exact hb i hi) g1 (L - 1) 0 fu (-nI 1) (by omega) (fu_gt (by omega))
        rw [slip_eq _ a c (by omega) hL] at this
        have this2 : lX6_firstSlip_16 fu Ta (nI a) (nI c) (nI (kT (fun i => decide (Tr 1 i = nI 1)) a c L 0 0)) (nI 0) (-nI 1) (nI 1) = some (fQ (qQ (fun i => decide (Tr 1 i = nI 1)) a c L) L 0, Ta) := this
        rw [this2, bd2_s]
    · rw [if_pos (by omega)]
      exact m_first (Tm := Tn) hL ha hc (by rw [f2 0 (by omega)]; exact h1) (fun i hi => by rw [f2 17 (by omega)]; exact hb2 i hi) g2 L 0 fu (by omega) (fu_gt (by omega))
end SLIPR
