theorem first_of {P : Nat → Prop} {N : Nat} (h : ∃ j, j < N ∧ P j) : ∃ j, j < N ∧ P j ∧ ∀ i, i < j → ¬ P i := by
  obtain ⟨j, hj, p⟩ := h
  have : ∀ k, k < N → P k → ∃ j, j < N ∧ P j ∧ ∀ i, i < j → ¬ P i := by
    intro k
    induction k using Nat.strongRecOn with
    | ind k ih =>
      intro hk pk
      by_cases c : ∃ i, i < k ∧ P i
      · obtain ⟨i, hi, pi⟩ := c
        exact ih i hi (by omega) pi
      · exact ⟨k, hk, pk, fun i hi pi => c ⟨i, hi, pi⟩⟩
  exact this j hj p
theorem aL_m {row j : Nat} (hr : row < 2 ^ 31) (hj : j < 2 ^ 31) : aL (-nI 1) (-nI 1) row j = true := by
  unfold aL
  simp only [e_eqm hr, e_eqm hj]
  rfl
section AN4
variable {Th Tm : Gp}
theorem c_fb (h : HR Th Tm) {N S : Nat} (hN : N ≤ 6) (hS : S < 2 ^ N) (hT : ∀ S', S' < 2 ^ N → Th 2 S' = nI (aT (ha Th) (aL (-nI 1) (-nI 1)) N 64 S')) {j0 : Nat} (hj0 : j0 < N) (e0 : aC (ha Th) (aL (-nI 1) (-nI 1)) (aT (ha Th) (aL (-nI 1) (-nI 1)) N 64) S j0 = aT (ha Th) (aL (-nI 1) (-nI 1)) N 64 S) (e1 : ∀ i, i < j0 → ¬ aC (ha Th) (aL (-nI 1) (-nI 1)) (aT (ha Th) (aL (-nI 1) (-nI 1)) N 64) S i = aT (ha Th) (aL (-nI 1) (-nI 1)) N 64 S) : ∀ k j n, j + k = j0 → k < n → lX4_firstBest_3 Th n (nI N) (nI S) (nI (cntB S)) (nI j) = some (nI j0) := by
  have h2 := (b_2 ⟨N, by omega⟩).2
  simp only at h2
  have hc := (b_lowlt ⟨S, by omega⟩).2
  simp only at hc
  have hh : ∀ i, i < 36 → ha Th i ≤ 99 := fun i hi => (ha_e h hi).2.2
  intro k
  induction k with
  | zero =>
    intro j n hk hn
    obtain ⟨n, rfl, -⟩ := gt_s hn
    have ej : j = j0 := by omega
    subst ej
    have lw := c_leastWith h (T := aT (ha Th) (aL (-nI 1) (-nI 1)) N 64) (show S < 64 by omega) (show j < 6 by omega) (by
      intro S' h1 h3 c e
      exact ⟨hT S' (by rw [e]; exact adN hN hS (by omega)), aT_1 hh hN h3⟩)
    rw [sX4_firstBest_3]
    unfold fX4_firstBest_3
    have q0 : (nI N ≤ nI j) = False := by rw [e_le (by omega) (by omega)]; exact eq_false (by omega)
    have q2 : (ix (nI S) 64) = True := by rw [e_ix (by omega)]; exact eq_true (by omega)
    have w1 : fX10_within (nI S) (nI 0) (nI 63) = some (bI true) := by
      rw [show (63 : Nat) = 64 - 1 from rfl, within_ok (by omega) (by omega), ok_nI (by omega) (by omega)]
    have z := cl_nI (show S < 2 ^ 31 by omega)
    unfold aC at e0
    rw [aL_m (by omega) (by omega)] at e0
    simp only [and_true] at e0
    simp only [lit, q0, q2, w1, z, bd1_s, bI_0, Bool.true_eq_false, if_false, lw, if_true, hT S hS, e0]
  | succ k ih =>
    intro j n hk hn
    obtain ⟨n, rfl, hn⟩ := gt_s hn
    have lw := c_leastWith h (T := aT (ha Th) (aL (-nI 1) (-nI 1)) N 64) (show S < 64 by omega) (show j < 6 by omega) (by
      intro S' h1 h3 c e
      exact ⟨hT S' (by rw [e]; exact adN hN hS (by omega)), aT_1 hh hN h3⟩)
    have ne := e1 j (by omega)
    rw [sX4_firstBest_3]
    unfold fX4_firstBest_3
    have q0 : (nI N ≤ nI j) = False := by rw [e_le (by omega) (by omega)]; exact eq_false (by omega)
    have q2 : (ix (nI S) 64) = True := by rw [e_ix (by omega)]; exact eq_true (by omega)
    have w1 : fX10_within (nI S) (nI 0) (nI 63) = some (bI true) := by
      rw [show (63 : Nat) = 64 - 1 from rfl, within_ok (by omega) (by omega), ok_nI (by omega) (by omega)]
    have z := cl_nI (show S < 2 ^ 31 by omega)
    unfold aC at ne
    rw [aL_m (by omega) (by omega)] at ne
    simp only [and_true] at ne
    have t1 := aT_1 (al := aL (-nI 1) (-nI 1)) hh hN (show S < 64 by omega)
    have bnd : (if hb S j = false then min (ha Th (6 * cntB S + j) + aT (ha Th) (aL (-nI 1) (-nI 1)) N 64 (adB S j)) 1000000 else 1000000) ≤ 1000000 := by
      split <;> omega
    simp only [lit, q0, q2, w1, z, bd1_s, bI_0, Bool.true_eq_false, if_false, lw, if_true, hT S hS]
    rw [if_eqn (by omega) (by omega), if_neg ne, e_add]
    exact ih (j + 1) n (by omega) (by omega)
theorem m_40 (h : HR Th Tm) {N S : Nat} (rec31 : Gp → Int32 → Int32 → Int32 → Int32 → Int32 → Option (Int32 × Gp)) (x1 x2 x5 : Int32) (hN : N ≤ 6) (hS : S < 2 ^ N) (hT : ∀ S', S' < 2 ^ N → Tm 14 S' = nI (toM (aT (ha Th) (aL (-nI 1) (-nI 1)) N 64 S'))) (hf : aT (ha Th) (aL (-nI 1) (-nI 1)) N 64 S < 1000000) {j0 : Nat} (hj0 : j0 < N) (e0 : aC (ha Th) (aL (-nI 1) (-nI 1)) (aT (ha Th) (aL (-nI 1) (-nI 1)) N 64) S j0 = aT (ha Th) (aL (-nI 1) (-nI 1)) N 64 S) (e1 : ∀ i, i < j0 → ¬ aC (ha Th) (aL (-nI 1) (-nI 1)) (aT (ha Th) (aL (-nI 1) (-nI 1)) N 64) S i = aT (ha Th) (aL (-nI 1) (-nI 1)) N 64 S) : ∀ k j n, j + k = j0 → k < n → lX11_anew_40 rec31 n Tm x1 x2 (nI S) (nI j) x5 = rec31 Tm x1 x2 (nI (adB S j0)) (nI j0) (x5 + nI 1) := by
  have h2 := (b_2 ⟨N, by omega⟩).2
  simp only at h2
  have hh : ∀ i, i < 36 → ha Th i ≤ 99 := fun i hi => (ha_e h hi).2.2
  have val : ∀ j, j < N → ∃ v, v < 2 ^ 31 ∧ fX11_harmBy Tm (nI S) (nI j) (-nI 1) (-nI 1) = some (nI v) ∧ (v = aT (ha Th) (aL (-nI 1) (-nI 1)) N 64 S ↔ aC (ha Th) (aL (-nI 1) (-nI 1)) (aT (ha Th) (aL (-nI 1) (-nI 1)) N 64) S j = aT (ha Th) (aL (-nI 1) (-nI 1)) N 64 S) := by
    intro j hj
    have hby := m_harmBy h (T := aT (ha Th) (aL (-nI 1) (-nI 1)) N 64) (o := -nI 1) (w := -nI 1) (fun _ => rfl) (show S < 64 by omega) (show j < 6 by omega) (fun c => hT _ (adN hN hS hj))
    refine ⟨_, ?_, hby, ?_⟩
    · have := toM_lt (aT (ha Th) (aL (-nI 1) (-nI 1)) N 64 (adB S j))
      by_cases c : hb S j = false ∧ aL (-nI 1) (-nI 1) (cntB S) j = true
      · rw [if_pos c]
        have a := ads (show S < 64 by omega) (by omega) c.1
        have := hh (6 * cntB S + j) (by omega)
        omega
      · rw [if_neg c]; omega
    · unfold aC
      by_cases c : hb S j = false ∧ aL (-nI 1) (-nI 1) (cntB S) j = true
      · rw [if_pos c, if_pos c]
        have a := ads (show S < 64 by omega) (by omega) c.1
        have := hh (6 * cntB S + j) (by omega)
        have b := aT_b (al := aL (-nI 1) (-nI 1)) hh hN 64 (adB S j) a.1
        unfold toM
        split <;> omega
      · rw [if_neg c, if_neg c]
        omega
  intro k
  induction k with
  | zero =>
    intro j n hk hn
    obtain ⟨n, rfl, -⟩ := gt_s hn
    have ej : j = j0 := by omega
    subst ej
    obtain ⟨v, hv, e, iff⟩ := val j hj0
    have ev := iff.mpr e0
    have ba := b_ad ⟨S, by omega⟩ ⟨j, by omega⟩
    simp only at ba
    rw [sX11_anew_40]
    unfold fX11_anew_40
    have q2 : (ix (nI S) 64) = True := by rw [e_ix (by omega)]; exact eq_true (by omega)
    have z := cl_nI (show S < 2 ^ 31 by omega)
    simp only [m1_eq]
    simp only [lit, e, bd1_s, q2, z, if_true, hT S hS, ba]
    rw [if_pos]
    rw [ev]
    unfold toM
    rw [if_pos hf]
  | succ k ih =>
    intro j n hk hn
    obtain ⟨n, rfl, hn⟩ := gt_s hn
    obtain ⟨v, hv, e, iff⟩ := val j (by omega)
    have ne := fun ev => e1 j (by omega) (iff.mp ev)
    rw [sX11_anew_40]
    unfold fX11_anew_40
    have q2 : (ix (nI S) 64) = True := by rw [e_ix (by omega)]; exact eq_true (by omega)
    have z := cl_nI (show S < 2 ^ 31 by omega)
    simp only [m1_eq]
    simp only [lit, e, bd1_s, q2, z, if_true, hT S hS]
    have tm : toM (aT (ha Th) (aL (-nI 1) (-nI 1)) N 64 S) = aT (ha Th) (aL (-nI 1) (-nI 1)) N 64 S := by unfold toM; rw [if_pos hf]
    rw [tm, if_eqn hv (by omega), if_neg ne, e_add]
    exact ih (j + 1) n (by omega) (by omega)
theorem un_ok (h : HR Th Tm) {N S : Nat} (hN : N ≤ 6) (hS : S < 2 ^ N) : aT (ha Th) (aL (-nI 1) (-nI 1)) N 64 S < 1000000 := by
  have h2 := (b_2 ⟨N, by omega⟩).2
  simp only at h2
  refine aT_ok (fun i hi => (ha_e h hi).2.2) hN (fun _ => True) (fun S hS _ => ?_) (64 - S) S (by omega) hS trivial
  obtain ⟨j, h1, h3⟩ := b_free ⟨N, by omega⟩ ⟨S, by omega⟩ hS
  have hc := (b_lowlt ⟨S, by omega⟩).2
  simp only at hc h1 h3
  exact ⟨j.1, h1, h3, aL_m (by omega) (by have := j.2; omega), trivial⟩
theorem both_partner (h : HR Th Tm) {N i : Nat} (x2 : Int32) (hN : N ≤ 6) (hi : i < N) (hT : ∀ S', S' < 2 ^ N → Th 2 S' = nI (aT (ha Th) (aL (-nI 1) (-nI 1)) N 64 S')) (hT2 : ∀ S', S' < 2 ^ N → Tm 14 S' = nI (toM (aT (ha Th) (aL (-nI 1) (-nI 1)) N 64 S'))) : ∀ m row S wi n n', row + m = i + 1 → cntB S = row → S < 2 ^ N → m < n → m < n' → ∃ r, lX4_partnerOf_16 n Th (nI N) (nI i) (nI S) wi (nI row) = some (r, Th) ∧ lX11_anew_31 n' Tm (nI i) x2 (nI S) wi (nI row) = some (r, Tm) := by
  have h2 := (b_2 ⟨N, by omega⟩).2
  simp only at h2
  intro m
  induction m with
  | zero =>
    intro row S wi n n' hm hc hS hn hn'
    obtain ⟨n, rfl, -⟩ := gt_s hn
    obtain ⟨n', rfl, -⟩ := gt_s hn'
    refine ⟨wi, ?_, ?_⟩
    · rw [sX4_partnerOf_16]
      unfold fX4_partnerOf_16
      rw [if_lt (by omega) (by omega), if_pos (by omega)]
    · rw [sX11_anew_31]
      unfold fX11_anew_31
      rw [if_lt (by omega) (by omega), if_pos (by omega)]
      simp only [m1_eq]
      have q : (nI i = -nI 1) = False := e_eqm (by omega)
      simp only [q, if_false]
  | succ m ih =>
    intro row S wi n n' hm hc hS hn hn'
    obtain ⟨n, rfl, hn⟩ := gt_s hn
    obtain ⟨n', rfl, hn'⟩ := gt_s hn'
    have hh : ∀ i, i < 36 → ha Th i ≤ 99 := fun i hi => (ha_e h hi).2.2
    have hf := un_ok h hN hS
    have cN := b_cN ⟨N, by omega⟩ ⟨S, by omega⟩ hS
    simp only at cN
    have ex : ∃ j, j < N ∧ aC (ha Th) (aL (-nI 1) (-nI 1)) (aT (ha Th) (aL (-nI 1) (-nI 1)) N 64) S j = aT (ha Th) (aL (-nI 1) (-nI 1)) N 64 S := by
      have e := aT_e (h := ha Th) (al := aL (-nI 1) (-nI 1)) hN (show S < 64 by omega)
      rcases fm_or (aC (ha Th) (aL (-nI 1) (-nI 1)) (aT (ha Th) (aL (-nI 1) (-nI 1)) N 64) S) N 0 (aI N S) with o | ⟨j, -, hj, o⟩
      · have : aI N S = 1000000 := by
          unfold aI
          rw [if_neg]
          intro c
          have := cN.2.mpr c
          omega
        omega
      · exact ⟨j, by omega, by rw [e, o]⟩
    obtain ⟨j0, hj0, e0, e1⟩ := first_of ex
    have fb := c_fb h hN hS hT hj0 e0 e1 j0 0 fu (by omega) (fu_gt (by omega))
    have m40 := m_40 h (lX11_anew_31 n') (nI i) x2 (nI row) hN hS hT2 hf hj0 e0 e1 j0 0 fu (by omega) (fu_gt (by omega))
    have ba := b_ad ⟨S, by omega⟩ ⟨j0, by omega⟩
    simp only at ba
    have hbj : hb S j0 = false := by
      cases c : hb S j0
      · rfl
      · exfalso
        unfold aC at e0
        rw [if_neg (by rw [c]; simp)] at e0
        omega
    have a := ads (show S < 64 by omega) (by omega) hbj
    obtain ⟨r, p1, p2⟩ := ih (row + 1) (adB S j0) (nI j0) n n' (by omega) (by omega) (adN hN hS hj0) (by omega) (by omega)
    refine ⟨r, ?_, ?_⟩
    · rw [sX4_partnerOf_16]
      unfold fX4_partnerOf_16 fX4_firstBest
      rw [if_lt (by omega) (by omega), if_neg (by omega)]
      simp only [lit]
      rw [← hc, fb]
      simp only [bd1_s, ba, e_add]
      rw [hc]
      exact p1
    · rw [sX11_anew_31]
      unfold fX11_anew_31
      rw [if_lt (by omega) (by omega), if_neg (by omega)]
      simp only [lit]
      rw [m40, e_add]
      exact p2
end AN4
section AN5
variable {Th Tm Tt : Gp} {τ : TD}
theorem both_lay (h : HR Th Tm) {N : Nat} {o w : Int32} (ho : o = -nI 1 → w = -nI 1) (hN : N ≤ 6) (h6 : Tm 0 6 = nI N) : ∃ Ta Tn, fX4_leastHarm Th (nI N) o w = some (nI (aT (ha Th) (aL o w) N 64 0), Ta) ∧ fX11_layRests Tm o w = some (nI (toM (aT (ha Th) (aL o w) N 64 0)), Tn) ∧ FO 0 Tm Tn ∧ HR Ta Tn ∧ ha Ta = ha Th ∧ (∀ S', S' < 2 ^ N → Ta 2 S' = nI (aT (ha Th) (aL o w) N 64 S')) ∧ ∀ S', S' < 2 ^ N → Tn 14 S' = nI (toM (aT (ha Th) (aL o w) N 64 S')) := by
  have h2 := b_2 ⟨N, by omega⟩
  have b := b_pow ⟨N, by omega⟩
  simp only at h2 b
  obtain ⟨Ta, e1, f1, g1, t1⟩ := c_16 o w hN (2 ^ N - 1) fu Th h (by omega) (fu_gt (by omega)) (fun S' h1 h3 => by omega)
  obtain ⟨Tn, e2, f2, t2⟩ := m_9 ho hN (2 ^ N) (2 ^ N - 1) fu Tm (by omega) h h6 (by omega) (fu_gt (by omega)) (fun S' h1 h3 => by omega)
  refine ⟨Ta, Tn, ?_, ?_, f2, HR_E f1 (FO_E f2 (by decide) (by decide)), g1, t1, t2⟩
  · unfold fX4_leastHarm
    simp only [lit, b, e_sub h2.1]
    rw [e_imn (by omega) (by omega), Nat.min_eq_left (by omega)]
    exact e1
  · unfold fX11_layRests
    rw [h6]
    simp only [lit, b, e_sub h2.1]
    exact e2
theorem r_anew (Te : Gp) (ht : CT Tt τ) (hm : RT Tm τ) (h : HR Th Tm) (x : Int32) : ∃ r Ta Tn, fX10_anew Te Tt Th x = some (r, Ta) ∧ fX11_anew Tm x = some (r, Tn) ∧ FO 0 Tm Tn ∧ HR Ta Tn := by
  have hN := ht.1.1
  have t0 := ht.2.1
  have m0 := hm.2.1
  obtain ⟨Ta, Tn, e1, e2, f, hr, g, t1, t2⟩ := both_lay h (o := -nI 1) (w := -nI 1) (fun _ => rfl) (show tN τ ≤ 6 by omega) m0
  have p1 := (b_2 ⟨tN τ, by omega⟩).1
  simp only at p1
  have ok0 := un_ok h (show tN τ ≤ 6 by omega) (show 0 < 2 ^ tN τ by omega)
  unfold fX10_anew fX11_anew fX11_anew_16 fX4_partnerOf
  simp only [m1_eq]
  rw [t0]
  simp only [e1, e2, bd2_s, lit, c_hasPair ht, m_isPair hm, bd1_s, bI_0]
  by_cases c : x = -nI 1
  · rw [if_pos c, if_pos c]
    refine ⟨_, Ta, Tn, rfl, ?_, f, hr⟩
    obtain ⟨n, hn⟩ := fu_ex
    have hn2 : fu = n + 99989 + 1 := hn
    rw [hn2, sX11_anew_31]
    unfold fX11_anew_31
    simp only [m1_eq]
    rw [c]
    have q : (-nI 1 < nI 0) = True := e_mlt (by omega)
    simp only [q, if_true]
    unfold toM
    rw [if_pos ok0]
  · rw [if_neg c, if_neg c]
    cases hx : ok x (tN τ)
    · exact ⟨_, Th, Tm, by simp; rfl, by simp, FO_r _ _, h⟩
    · obtain ⟨i, hi, rfl⟩ := ok_ex hx (by omega)
      rw [← g] at t1 t2
      obtain ⟨r, k1, k2⟩ := both_partner hr (nI (toM (aT (ha Th) (aL (-nI 1) (-nI 1)) (tN τ) 64 0))) (show tN τ ≤ 6 by omega) hi t1 t2 (i + 1) 0 0 (-nI 1) fu fu (by omega) (by decide) (by omega) (fu_gt (by omega)) (fu_gt (by omega))
      rw [if_neg (by simp), if_neg (by simp)]
      refine ⟨r, Ta, Tn, ?_, k2, f, hr⟩
      rw [k1]
      rfl
theorem fo_ok (h : HR Th Tm) {N i j : Nat} (hN : N ≤ 6) (hi : i < N) (hj : j < N) : aT (ha Th) (aL (nI i) (nI j)) N 64 0 < 1000000 := by
  have h2 := (b_2 ⟨N, by omega⟩)
  simp only at h2
  have al : ∀ row k, row < 2 ^ 31 → k < 2 ^ 31 → aL (nI i) (nI j) row k = (decide (row = i) == decide (k = j)) := by
    intro row k hr hk
    unfold aL
    simp only [e_eq hr (show i < 2 ^ 31 by omega), e_eq hk (show j < 2 ^ 31 by omega)]
  refine aT_ok (fun i hi => (ha_e h hi).2.2) hN (fun S => hb S j = decide (i < cntB S)) (fun S hS p => ?_) 64 0 (by omega) (by omega) ?_
  · have hc := (b_cN ⟨N, by omega⟩ ⟨S, by omega⟩ (show S < 2 ^ N by omega))
    simp only at hc
    by_cases c : cntB S = i
    · have pj : hb S j = false := by rw [p]; exact decide_eq_false (by omega)
      refine ⟨j, hj, pj, ?_, ?_⟩
      · rw [al _ _ (by omega) (by omega), c]; simp
      · have a := ads (show S < 64 by omega) (by omega) pj
        have b := b_adh ⟨S, by omega⟩ ⟨j, by omega⟩ ⟨j, by omega⟩
        simp only at b
        rw [b, a.2.2.1, c]
        simp
    · by_cases c2 : cntB S < i
      · have pj : hb S j = false := by rw [p]; exact decide_eq_false (by omega)
        obtain ⟨k, k1, k2, k3⟩ := b_fre2 ⟨N, by omega⟩ ⟨S, by omega⟩ ⟨j, by omega⟩ (show S < 2 ^ N by omega) (show cntB S + 1 < N by omega)
        simp only at k1 k2 k3
        have a := ads (show S < 64 by omega) k.2 k2
        have b := b_adh ⟨S, by omega⟩ k ⟨j, by omega⟩
        simp only at b
        refine ⟨k.1, k1, k2, ?_, ?_⟩
        · rw [al _ _ (by omega) (by have := k.2; omega), decide_eq_false c, decide_eq_false k3]; rfl
        · rw [b, pj, a.2.2.1, decide_eq_false (fun e => k3 (by rw [e])), decide_eq_false (by omega)]; rfl
      · have pj : hb S j = true := by rw [p]; exact decide_eq_true (by omega)
        obtain ⟨k, k1, k2⟩ := b_free ⟨N, by omega⟩ ⟨S, by omega⟩ hS
        simp only at k1 k2
        have k3 : ¬ k.1 = j := fun e => by rw [e, pj] at k2; cases k2
        have a := ads (show S < 64 by omega) k.2 k2
        have b := b_adh ⟨S, by omega⟩ k ⟨j, by omega⟩
        simp only at b
        refine ⟨k.1, k1, k2, ?_, ?_⟩
        · rw [al _ _ (by omega) (by have := k.2; omega), decide_eq_false c, decide_eq_false k3]; rfl
        · rw [b, pj, a.2.2.1, decide_eq_true (show i < cntB S + 1 by omega)]; rfl
  · show hb 0 j = _
    unfold hb
    rw [Nat.zero_div]
    rfl
theorem r_forced (Te : Gp) (ht : CT Tt τ) (hm : RT Tm τ) (h : HR Th Tm) (x y : Int32) : ∃ r Ta Tn, fX10_forced Te Tt Th x y = some (r, Ta) ∧ fX11_forced Tm x y = some (r, Tn) ∧ FO 0 Tm Tn ∧ HR Ta Tn := by
  have hN := ht.1.1
  have t0 := ht.2.1
  have m0 := hm.2.1
  unfold fX10_forced fX11_forced
  rw [t0]
  simp only [lit, c_hasPair ht, m_isPair hm, bd1_s, bI_0]
  cases hx : ok x (tN τ)
  · exact ⟨_, Th, Tm, by simp; rfl, by simp, FO_r _ _, h⟩
  cases hy : ok y (tN τ)
  · exact ⟨_, Th, Tm, by simp; rfl, by simp, FO_r _ _, h⟩
  obtain ⟨i, hi, rfl⟩ := ok_ex hx (by omega)
  obtain ⟨j, hj, rfl⟩ := ok_ex hy (by omega)
  obtain ⟨Ta, Tn, e1, e2, f, hr, -⟩ := both_lay h (o := nI i) (w := nI j) (fun e => by rw [e_eqm (by omega)] at e; exact e.elim) (show tN τ ≤ 6 by omega) m0
  have ok0 := fo_ok h (show tN τ ≤ 6 by omega) hi hj
  refine ⟨nI (aT (ha Th) (aL (nI i) (nI j)) (tN τ) 64 0), Ta, Tn, ?_, ?_, f, hr⟩
  · simp [e1, bd2_s]
  · have : toM (aT (ha Th) (aL (nI i) (nI j)) (tN τ) 64 0) = aT (ha Th) (aL (nI i) (nI j)) (tN τ) 64 0 := by unfold toM; rw [if_pos ok0]
    rw [this] at e2
    simp [e2, bd2_s]
end AN5
