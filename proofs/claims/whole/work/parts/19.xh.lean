def MY (Tm : Gp) (τ : TD) : Prop := Tm 0 16 = nI (tN τ) ∧ Tm 0 17 = nI (tH τ) ∧ ∀ w v, w < 5 → v < 2 → Tm 8 (2 * w + v) = bI (cn τ v w)
section LINE4
variable {Tx Tm Tk Tl Tv : Gp} {len : Nat} {t : Nat → Nat} {b : Nat} {q : Nat} {τ : TD}
theorem XT_0 {Ta : Gp} (h : XT len t Tx Tm) (f : FO 0 Tm Ta) : XT len t Tx Ta := by
  obtain ⟨h0, h1, h2, h3⟩ := h
  refine ⟨h0, h1, by rw [f 0 3 (by decide) (by decide)]; exact h2, fun i hi => ?_⟩
  rw [f 3 i (fun e => by cases e) (fun e => by cases e)]
  exact h3 i hi
theorem KK_g {Ta : Gp} (h : KK len t Tk Tm b) (h13 : Ta 0 13 = Tm 0 13) (h14 : Ta 0 14 = Tm 0 14) (h15 : Ta 0 15 = Tm 0 15) : KK len t Tk Ta b := by
  obtain ⟨h0, h1, h2, h3, h4, h5, h6⟩ := h
  exact ⟨h0, h1, h2, h3, by rw [h13]; exact h4, by rw [h14]; exact h5, by rw [h15]; exact h6⟩
theorem FR'_FO {Ta : Gp} (h : FR' q Tm Ta) : FO 0 Tm Ta := fun c i e _ => h c i (by
  intro f
  apply e
  rcases f with ⟨rfl, rfl | rfl | rfl⟩ <;> rfl) (by
  intro f
  apply e
  rw [f.1]
  rfl)
theorem bx_m (c : Bool) {b : Nat} (hb : b ≤ 20) : (bx c b = -nI 1) = (c = false) := by
  unfold bx
  cases c
  · simp
  · simp only [if_true, e_eqm (show b < 2 ^ 31 by omega)]
    simp
/-- how a line ends on both sides -/
def BL (len : Nat) (t : Nat → Nat) (Tx Tl : Gp) (q : Nat) (τ : TD) (Tm : Gp) (r1 : Option (Gp × Gp × Gp)) (r2 : Option (Int32 × Gp)) : Prop :=
  (∃ Tl' Ta Tb Tn f, f ≤ 200 ∧ r1 = some (Tl', Ta, Tb) ∧ Tl' 0 1 = nI f ∧ r2 = some (nI 0, Tn) ∧ Tn 0 14 = nI f ∧ FO 0 Tm Tn) ∨
  (∃ Ta Tb Tn b' τ', r1 = some (Tl, Ta, Tb) ∧ r2 = some (nI 1, Tn) ∧ XT len t Tx Tn ∧ KK len t Ta Tn b' ∧ CT Tb τ' ∧ AP Tn q τ τ' ∧ MY Tn τ' ∧ Tn 0 5 = nI (q + 1) ∧ FO 0 Tm Tn ∧ ∀ j, j < 6 * q → Tn 4 j = Tm 4 j)
theorem line_fin {w : Nat} {Tm3 : Gp} {R1 : Option (Gp × Gp × Gp)} (h : XT len t Tx Tm) (hw : w < 6) (hq : q < 10) (h5 : Tm 0 5 = nI q) (f3 : FT Tm Tm3) (hm : MY Tm τ) (hf : LF q (u2 Tm3 4 (6 * q) (nI w)) R1 (fX11_readsRest (u2 Tm3 4 (6 * q) (nI w)) (nI w)) ∨ LO len t Tx Tl q τ (u2 Tm3 4 (6 * q) (nI w)) R1 (fX11_readsRest (u2 Tm3 4 (6 * q) (nI w)) (nI w))) (e1 : fX1_readLine Tl Tk Tx Tv = bd3 R1 (fun a b c => some (a, b, c))) (ew : fX11_wordOf Tm = some (nI w)) (et : fX11_token Tm = some Tm3) : BL len t Tx Tl q τ Tm (fX1_readLine Tl Tk Tx Tv) (fX11_readsLine Tm) := by
  have hl := h.1
  have n10 : (nI 1 = nI 0) = False := neN (by omega) (by omega) (by omega)
  have q0 : (ix (nI (6 * q)) 60) = True := by rw [e_ix (by omega)]; exact eq_true (by omega)
  have z0 := cl_nI (show 6 * q < 2 ^ 31 by omega)
  have s5 : Tm3 0 5 = nI q := by rw [f3 0 5 (by omega)]; exact h5
  have f4 : FO 0 Tm (u2 Tm3 4 (6 * q) (nI w)) := FO_t (FT_FO f3) (FO_u (Or.inr rfl))
  rw [e1]
  unfold fX11_readsLine
  rw [ew]
  simp only [bd1_s, lq, e_eqm (show w < 2 ^ 31 by omega), if_false]
  rw [et]
  simp only [bd1_s, s5, e_mul, e_add, q0, z0, if_true]
  rcases hf with ⟨Tl', Ta, Tb, Tn, f, hf2, r1, a1, r2, a2, a3⟩ | ⟨Ta, Tb, Tn, b', τ', p1, p2, X, K, C, A, F⟩
  · left
    rw [r1, r2]
    simp only [bd3_s, bd2_s, if_true]
    exact ⟨Tl', Ta, Tb, Tn, f, hf2, rfl, a1, rfl, a2, FO_t f4 (FR'_FO a3)⟩
  · right
    rw [p1, p2]
    have g5 : Tn 0 5 = nI q := by rw [F 0 5 (by omega) (by omega), u2_ap, if_neg (by omega)]; exact s5
    have g4 : Tn 4 (6 * q) = nI w := by rw [F 4 _ (by omega) (by omega), u2_same]
    have go : FO 0 Tm Tn := FO_t f4 (FR'_FO F)
    have gj : ∀ j, j < 6 * q → Tn 4 j = Tm 4 j := fun j hj => by rw [F 4 j (by omega) (by omega), u2_ap, if_neg (by omega), f3 4 j (by omega)]
    have g16 : Tn 0 16 = nI (tN τ) := by rw [F 0 16 (by omega) (by omega), u2_ap, if_neg (by omega), f3 0 16 (by omega)]; exact hm.1
    have g17 : Tn 0 17 = nI (tH τ) := by rw [F 0 17 (by omega) (by omega), u2_ap, if_neg (by omega), f3 0 17 (by omega)]; exact hm.2.1
    have g8 : ∀ w v, w < 5 → v < 2 → Tn 8 (2 * w + v) = bI (cn τ v w) := fun w v h1 h2 => by rw [F 8 _ (by omega) (by omega), u2_ap, if_neg (by omega), f3 8 _ (by omega)]; exact hm.2.2 w v h1 h2
    simp only [bd3_s, bd2_s, n10, if_false]
    have rest : 2 ≤ w → MY Tn τ' → ∃ Ta_1 Tb_1 Tn_1 b' τ', some (Tl, Ta, Tb) = some (Tl, Ta_1, Tb_1) ∧ (if nI w = nI 0 then if ix (nI (6 * q + 1)) 60 then if ix (nI (6 * q + 2)) 60 then fX11_readsLine_143 (u2 (u2 Tn 0 16 (Tn 4 (nI (6 * q + 1)).toNatClampNeg)) 0 17 (Tn 4 (nI (6 * q + 2)).toNatClampNeg)) else none else none else if nI w = nI 1 then if ix (nI (6 * q + 1)) 60 then if ix (nI (6 * q + 3)) 60 then if Tn 4 (nI (6 * q + 3)).toNatClampNeg = -nI 1 then fX11_readsLine_108 Tn (nI (6 * q)) (nI 2 * Tn 4 (nI (6 * q + 1)).toNatClampNeg) (nI 0) else fX11_readsLine_108 Tn (nI (6 * q)) (nI 2 * Tn 4 (nI (6 * q + 1)).toNatClampNeg) (nI 1) else none else none else fX11_readsLine_143 Tn) = some (nI 1, Tn_1) ∧ XT len t Tx Tn_1 ∧ KK len t Ta_1 Tn_1 b' ∧ CT Tb_1 τ' ∧ AP Tn_1 q τ τ' ∧ MY Tn_1 τ' ∧ Tn_1 0 5 = nI (q + 1) ∧ FO 0 Tm Tn_1 ∧ ∀ (j : Nat), j < 6 * q → Tn_1 4 j = Tm 4 j := by
      intro h2 my
      rw [if_neg (by rw [neN (by omega) (by omega) (by omega)]; simp), if_neg (by rw [neN (by omega) (by omega) (by omega)]; simp)]
      unfold fX11_readsLine_143
      rw [g5, lq, e_add]
      have fo : FO 0 Tn (u2 Tn 0 5 (nI (q + 1))) := FO_u (Or.inr rfl)
      refine ⟨Ta, Tb, _, b', τ', rfl, rfl, XT_0 X fo, KK_g K (by rw [u2_ap, if_neg (by omega)]) (by rw [u2_ap, if_neg (by omega)]) (by rw [u2_ap, if_neg (by omega)]), C, AP_E A (fun j _ => by rw [u2_ap, if_neg (by omega)]), ?_, u2_same _ _ _ _, FO_t go fo, fun j hj => by rw [u2_ap, if_neg (by omega)]; exact gj j hj⟩
      obtain ⟨m1, m2, m3⟩ := my
      refine ⟨?_, ?_, fun w v h1 h2 => ?_⟩
      · rw [u2_ap, if_neg (by omega)]; exact m1
      · rw [u2_ap, if_neg (by omega)]; exact m2
      · rw [u2_ap, if_neg (by omega)]; exact m3 w v h1 h2
    have cr : ∀ k, k < 6 → k ≠ w → ¬ Tn 4 (6 * q) = nI k := fun k hk hne e => by
      rw [g4, neN (by omega) (by omega) (fun e => hne e.symm)] at e
      exact e
    have A' := A
    rcases A with ⟨a, c, ha, hb, r0, r1, r2, rfl⟩ | ⟨w1, c, c0, b0, c1, b1, x, hw5, hc4, hb0, hb1, hx, r0, r1, r2, r3, r4, r5, rfl⟩ | ⟨p, j, hp, hj, r0, r1, r2, rfl⟩ | ⟨o, v, p, hr, w1, ho, hv, hp, hhr, hw5, r0, r1, r2, r3, r4, r5, rfl⟩ | ⟨e, he, r0, r1, rfl⟩ | ⟨f, hf, r0, r1, rfl⟩
    · have w0 : w = 0 := Nat.le_antisymm (Nat.le_of_not_lt fun h => cr 0 (by omega) (by omega) r0) (Nat.zero_le _)
      subst w0
      have q1 : (ix (nI (6 * q + 1)) 60) = True := by rw [e_ix (by omega)]; exact eq_true (by omega)
      have q2 : (ix (nI (6 * q + 2)) 60) = True := by rw [e_ix (by omega)]; exact eq_true (by omega)
      have z1 := cl_nI (show 6 * q + 1 < 2 ^ 31 by omega)
      have z2 := cl_nI (show 6 * q + 2 < 2 ^ 31 by omega)
      simp only [if_true, q1, q2, z1, z2, r1, r2]
      unfold fX11_readsLine_143
      have e5 : u2 (u2 Tn 0 16 (nI a)) 0 17 (nI c) 0 5 = nI q := by rw [u2_ap, if_neg (by omega), u2_ap, if_neg (by omega)]; exact g5
      rw [e5, lq, e_add]
      have fo : FO 0 Tn (u2 (u2 (u2 Tn 0 16 (nI a)) 0 17 (nI c)) 0 5 (nI (q + 1))) := FO_t (FO_t (FO_u (Or.inr rfl)) (FO_u (Or.inr rfl))) (FO_u (Or.inr rfl))
      have same : ∀ c' i, ¬ (c' = 0 ∧ (i = 16 ∨ i = 17 ∨ i = 5)) → u2 (u2 (u2 Tn 0 16 (nI a)) 0 17 (nI c)) 0 5 (nI (q + 1)) c' i = Tn c' i := fun c' i hi => by
        rw [u2_ap, if_neg (by omega), u2_ap, if_neg (by omega), u2_ap, if_neg (by omega)]
      refine ⟨Ta, Tb, _, b', _, rfl, rfl, XT_0 X fo, KK_g K (same _ _ (by omega)) (same _ _ (by omega)) (same _ _ (by omega)), C, AP_E A' (fun j _ => same _ _ (by omega)), ⟨?_, ?_, fun w v h1 h2 => ?_⟩, u2_same _ _ _ _, FO_t go fo, fun j hj => by rw [same _ _ (by omega)]; exact gj j hj⟩
      · rw [u2_ap, if_neg (by omega), u2_ap, if_neg (by omega), u2_same]; rfl
      · rw [u2_ap, if_neg (by omega), u2_same]; rfl
      · rw [same _ _ (by omega)]; exact g8 w v h1 h2
    · have w0 : w = 1 := by
        apply Decidable.byContradiction
        intro h
        exact cr 1 (by omega) (fun e => h e.symm) r0
      subst w0
      have q1 : (ix (nI (6 * q + 1)) 60) = True := by rw [e_ix (by omega)]; exact eq_true (by omega)
      have q3 : (ix (nI (6 * q + 3)) 60) = True := by rw [e_ix (by omega)]; exact eq_true (by omega)
      have q4 : (ix (nI (6 * q + 4)) 60) = True := by rw [e_ix (by omega)]; exact eq_true (by omega)
      have q5 : (ix (nI (2 * w1)) 12) = True := by rw [e_ix (by omega)]; exact eq_true (by omega)
      have q6 : (ix (nI (2 * w1 + 1)) 12) = True := by rw [e_ix (by omega)]; exact eq_true (by omega)
      have z1 := cl_nI (show 6 * q + 1 < 2 ^ 31 by omega)
      have z3 := cl_nI (show 6 * q + 3 < 2 ^ 31 by omega)
      have z4 := cl_nI (show 6 * q + 4 < 2 ^ 31 by omega)
      have z5 := cl_nI (show 2 * w1 < 2 ^ 31 by omega)
      have z6 := cl_nI (show 2 * w1 + 1 < 2 ^ 31 by omega)
      have e108 : ∀ y : Bool, fX11_readsLine_108 Tn (nI (6 * q)) (nI (2 * w1)) (bI y) = some (nI 1, u2 (u2 (u2 Tn 8 (2 * w1) (bI y)) 8 (2 * w1 + 1) (bI c1)) 0 5 (nI (q + 1))) := by
        intro y
        have s1 : ∀ v, u2 Tn 8 (2 * w1) v 4 (6 * q + 1) = nI w1 := fun v => by rw [u2_ap, if_neg (by omega)]; exact r1
        have s4 : ∀ v, u2 Tn 8 (2 * w1) v 4 (6 * q + 4) = bx c1 b1 := fun v => by rw [u2_ap, if_neg (by omega)]; exact r4
        have s5' : ∀ v v', u2 (u2 Tn 8 (2 * w1) v) 8 (2 * w1 + 1) v' 0 5 = nI q := fun v v' => by rw [u2_ap, if_neg (by omega), u2_ap, if_neg (by omega)]; exact g5
        unfold fX11_readsLine_108 fX11_readsLine_142 fX11_readsLine_143
        simp only [lq, q5, z5, e_add, q1, q4, if_true, z4, z1, r4, r1, bx_m c1 hb1, e_mul, q6, z6, s5', bI_nar, nar0, nar1]
        cases c1
        · rfl
        · rfl
      simp only [n10, if_false, if_true, q1, q3, z1, z3, r1, r3, bx_m c0 hb0, e_mul]
      have pick : (if c0 = false then fX11_readsLine_108 Tn (nI (6 * q)) (nI (2 * w1)) (nI 0) else fX11_readsLine_108 Tn (nI (6 * q)) (nI (2 * w1)) (nI 1)) = some (nI 1, u2 (u2 (u2 Tn 8 (2 * w1) (bI c0)) 8 (2 * w1 + 1) (bI c1)) 0 5 (nI (q + 1))) := by
        rw [← e108 c0]
        cases c0
        · rfl
        · rfl
      rw [pick]
      have fo : FO 0 Tn (u2 (u2 (u2 Tn 8 (2 * w1) (bI c0)) 8 (2 * w1 + 1) (bI c1)) 0 5 (nI (q + 1))) := FO_t (FO_t (FO_u (Or.inr rfl)) (FO_u (Or.inr rfl))) (FO_u (Or.inr rfl))
      have same : ∀ c' i, ¬ (c' = 0 ∧ i = 5) → c' ≠ 8 → u2 (u2 (u2 Tn 8 (2 * w1) (bI c0)) 8 (2 * w1 + 1) (bI c1)) 0 5 (nI (q + 1)) c' i = Tn c' i := fun c' i hi h8 => by
        rw [u2_ap, if_neg (by omega), u2_ap, if_neg (by omega), u2_ap, if_neg (by omega)]
      refine ⟨Ta, Tb, _, b', _, rfl, rfl, XT_0 X fo, KK_g K (same _ _ (by omega) (by omega)) (same _ _ (by omega) (by omega)) (same _ _ (by omega) (by omega)), C, AP_E A' (fun j _ => same _ _ (by omega) (by omega)), ⟨?_, ?_, fun j v h1 h2 => ?_⟩, u2_same _ _ _ _, FO_t go fo, fun j hj => by rw [same _ _ (by omega) (by omega)]; exact gj j hj⟩
      · rw [same _ _ (by omega) (by omega)]; exact g16
      · rw [same _ _ (by omega) (by omega)]; exact g17
      · show _ = bI (if j = w1 then (if v = 0 then c0 else c1) else cn τ v j)
        rw [u2_ap, if_neg (by omega), u2_ap]
        by_cases d : j = w1
        · have v2 : v = 0 ∨ v = 1 := by omega
          rcases v2 with rfl | rfl
          · rw [if_neg (by omega), u2_ap, if_pos (by omega), if_pos d, if_pos rfl]
          · rw [if_pos (by omega), if_pos d, if_neg (by omega)]
        · rw [if_neg (by omega), u2_ap, if_neg (by omega), if_neg d]
          exact g8 j v h1 h2
    · exact rest (Nat.le_of_not_lt fun h => cr 2 (by omega) (by omega) r0) ⟨g16, g17, g8⟩
    · exact rest (Nat.le_of_not_lt fun h => cr 3 (by omega) (by omega) r0) ⟨g16, g17, g8⟩
    · exact rest (Nat.le_of_not_lt fun h => cr 4 (by omega) (by omega) r0) ⟨g16, g17, g8⟩
    · exact rest (Nat.le_of_not_lt fun h => cr 5 (by omega) (by omega) r0) ⟨g16, g17, g8⟩
theorem both_line (h : XT len t Tx Tm) (hk : KK len t Tk Tm b) (hq : q < 10) (h5 : Tm 0 5 = nI q) (hT : Tl 0 1 = -nI 1) (hc : CT Tv τ) (hm : MY Tm τ) : BL len t Tx Tl q τ Tm (fX1_readLine Tl Tk Tx Tv) (fX11_readsLine Tm) := by
  have hl := h.1
  have hb := hk.1
  have ew := m_wordOf h hk
  obtain ⟨Tk1, Tm3, b1, ta, tb', f3, k3⟩ := both_next h hk
  have X4 : ∀ w, XT len t Tx (u2 Tm3 4 (6 * q) (nI w)) := fun w => XT_4 (XT_f h f3) _ _
  have K4 : ∀ w, KK len t Tk1 (u2 Tm3 4 (6 * q) (nI w)) b1 := fun w => KK_4 k3 _ _
  have s5 : ∀ w, u2 Tm3 4 (6 * q) (nI w) 0 5 = nI q := fun w => by rw [u2_ap, if_neg (by omega), f3 0 5 (by omega)]; exact h5
  have s16 : ∀ w, u2 Tm3 4 (6 * q) (nI w) 0 16 = nI (tN τ) := fun w => by rw [u2_ap, if_neg (by omega), f3 0 16 (by omega)]; exact hm.1
  have s17 : ∀ w, u2 Tm3 4 (6 * q) (nI w) 0 17 = nI (tH τ) := fun w => by rw [u2_ap, if_neg (by omega), f3 0 17 (by omega)]; exact hm.2.1
  have s8 : ∀ w0 w v, w < 5 → v < 2 → u2 Tm3 4 (6 * q) (nI w0) 8 (2 * w + v) = bI (cn τ v w) := fun w0 w v h1 h2 => by rw [u2_ap, if_neg (by omega), f3 8 _ (by omega)]; exact hm.2.2 w v h1 h2
  have s4 : ∀ w, u2 Tm3 4 (6 * q) (nI w) 4 (6 * q) = nI w := fun w => u2_same _ _ _ _
  have c0 := c_isWord h hk (k := 0) (by omega)
  have c1 := c_isWord h hk (k := 1) (by omega)
  have c2 := c_isWord h hk (k := 2) (by omega)
  have c3 := c_isWord h hk (k := 3) (by omega)
  have c4 := c_isWord h hk (k := 4) (by omega)
  have c5 := c_isWord h hk (k := 5) (by omega)
  have ft : (true = false) = False := by simp
  have ft2 : (false = true) = False := by simp
  unfold wf at ew
  cases i0 : isW len t b 0
  · rw [i0] at ew
    cases i1 : isW len t b 1
    · rw [i1] at ew
      cases i2 : isW len t b 2
      · rw [i2] at ew
        cases i3 : isW len t b 3
        · rw [i3] at ew
          cases i4 : isW len t b 4
          · rw [i4] at ew
            cases i5 : isW len t b 5
            · rw [i5] at ew
              left
              simp only [ft2, if_false, if_true] at ew
              refine ⟨u2 Tl 0 1 (nI b), Tk, Tv, Tm, b, by omega, ?_, u2_same _ _ _ _, ?_, hk.2.2.2.2.2.1, FO_r _ _⟩
              · unfold fX1_readLine
                rw [c0, c1, c2, c3, c4, c5, i0, i1, i2, i3, i4, i5, hk.2.1]
                simp only [bd1_s, lq, bI_0, if_true]
              · unfold fX11_readsLine
                rw [ew]
                simp only [bd1_s, m1_q, if_true]
                rfl
            · rw [i5] at ew
              simp only [ft2, if_false, if_true, show (5 = 6) = False by simp] at ew
              refine line_fin h (show 5 < 6 by omega) hq h5 f3 hm (L_fi (X4 5) (K4 5) hq (s5 5) (s4 5) hT ta hc) ?_ ew tb'
              unfold fX1_readLine
              rw [c0, c1, c2, c3, c4, c5, i0, i1, i2, i3, i4, i5]
              simp only [bd1_s, lq, bI_0, ft, if_true, if_false]
          · rw [i4] at ew
            simp only [ft2, if_false, if_true, show (4 = 6) = False by simp] at ew
            refine line_fin h (show 4 < 6 by omega) hq h5 f3 hm (L_ea (X4 4) (K4 4) hq (s5 4) (s4 4) hT ta hc) ?_ ew tb'
            unfold fX1_readLine
            rw [c0, c1, c2, c3, c4, i0, i1, i2, i3, i4]
            simp only [bd1_s, lq, bI_0, ft, if_true, if_false]
        · rw [i3] at ew
          simp only [ft2, if_false, if_true, show (3 = 6) = False by simp] at ew
          refine line_fin h (show 3 < 6 by omega) hq h5 f3 hm (L_mn (X4 3) (K4 3) hq (s5 3) (s4 3) hT ta hc (s16 3) (s17 3) (s8 3)) ?_ ew tb'
          unfold fX1_readLine
          rw [c0, c1, c2, c3, i0, i1, i2, i3]
          simp only [bd1_s, lq, bI_0, ft, if_true, if_false]
      · rw [i2] at ew
        simp only [ft2, if_false, if_true, show (2 = 6) = False by simp] at ew
        refine line_fin h (show 2 < 6 by omega) hq h5 f3 hm (L_kd (X4 2) (K4 2) hq (s5 2) (s4 2) hT ta hc (s16 2)) ?_ ew tb'
        unfold fX1_readLine
        rw [c0, c1, c2, i0, i1, i2]
        simp only [bd1_s, lq, bI_0, ft, if_true, if_false]
    · rw [i1] at ew
      simp only [ft2, if_false, if_true, show (1 = 6) = False by simp] at ew
      refine line_fin h (show 1 < 6 by omega) hq h5 f3 hm (L_wk (X4 1) (K4 1) hq (s5 1) (s4 1) hT ta hc) ?_ ew tb'
      unfold fX1_readLine
      rw [c0, c1, i0, i1]
      simp only [bd1_s, lq, bI_0, ft, if_true, if_false]
  · rw [i0] at ew
    simp only [if_true, if_false, show (0 = 6) = False by simp] at ew
    refine line_fin h (show 0 < 6 by omega) hq h5 f3 hm (L_tr (X4 0) (K4 0) hq (s5 0) (s4 0) hT ta hc) ?_ ew tb'
    unfold fX1_readLine
    rw [c0, i0]
    simp only [bd1_s, lq, bI_0, ft, if_true, if_false]
end LINE4
