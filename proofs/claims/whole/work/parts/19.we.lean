section PLM
variable {Tm : Gp} {τ : TD} {o w : Nat}
theorem RT_0 {Ta : Gp} (h : RT Tm τ) (f : FO 0 Tm Ta) : RT Ta τ := RT_E h (FO_E f (by decide) (by decide))
theorem s_ph (hw : TW τ) {s : Nat} (hs : s < sS τ) : s / tH τ < tN τ ∧ s % tH τ < tH τ := by
  have hH := hw.2.1
  refine ⟨?_, Nat.mod_lt _ (by omega)⟩
  rw [Nat.div_lt_iff_lt_mul (by omega)]
  exact hs
theorem m_fits (hm : RT Tm τ) {s i : Nat} (ho : o < 2) (hs : s < sS τ) (hi : i < 36) : fX11_fits Tm (nI s) (nI o) (nI (i / 6)) (nI (i % 6)) = some (bI (al τ o s i)) := by
  have h24 := sS_24 hm.1
  have ph := s_ph hm.1 hs
  have hN := hm.1.1
  have hH := hm.1.2.1
  have m0 := m_may hm (v := 0) (by omega) ph.1 (show s % tH τ < 4 by omega) (show i / 6 ≤ 5 by omega)
  have m1 := m_may hm (v := 1) (by omega) ph.1 (show s % tH τ < 4 by omega) (show i % 6 ≤ 5 by omega)
  obtain ⟨tw, h0, h1, h2, h3, hk, hc, hb, hwo, hmn⟩ := hm
  have hkd := tw.2.2.2.2.1 (s / tH τ)
  have c1 := tw.2.2.2.2.2.1 (i / 6)
  have c2 := tw.2.2.2.2.2.1 (i % 6)
  have q1 : (nI (tH τ) = nI 0) = False := by rw [e_eq (by omega) (by omega)]; exact eq_false (by omega)
  have q2 : (ix (nI (4 * (i / 6))) 24) = True := by rw [e_ix (by omega)]; exact eq_true (by omega)
  have q3 : (ix (nI (4 * (i % 6))) 24) = True := by rw [e_ix (by omega)]; exact eq_true (by omega)
  have q4 : (ix (nI (s / tH τ)) 6) = True := by rw [e_ix (by omega)]; exact eq_true (by omega)
  have z2 := cl_nI (show 4 * (i / 6) < 2 ^ 31 by omega)
  have z3 := cl_nI (show 4 * (i % 6) < 2 ^ 31 by omega)
  have z4 := cl_nI (show s / tH τ < 2 ^ 31 by omega)
  have f41 : ∀ y, y < 2 → fX11_fits_41 Tm (nI o) (nI (i / 6)) (nI (i % 6)) (nI (s / tH τ)) (nI (s % tH τ)) (nI y) = some (bI (may τ 0 (s / tH τ) (s % tH τ) (i / 6) && may τ 1 (s / tH τ) (s % tH τ) (i % 6) && (decide (kd τ (s / tH τ) = 3) || (decide (y = 1) == decide (o = 0))))) := by
    intro y hy
    unfold fX11_fits_41
    simp only [lit, m0, m1, bd1_s, bI_0, q4, if_true, z4, hk _ (show s / tH τ < 6 by omega), e_eq (show kd τ (s / tH τ) < 2 ^ 31 by omega) (show 3 < 2 ^ 31 by omega), e_eq (show o < 2 ^ 31 by omega) (show 0 < 2 ^ 31 by omega), e_eq (show y < 2 ^ 31 by omega) (show 1 < 2 ^ 31 by omega), e_eq (show y < 2 ^ 31 by omega) (show 0 < 2 ^ 31 by omega)]
    have y2 : y = 0 ∨ y = 1 := by omega
    cases may τ 0 (s / tH τ) (s % tH τ) (i / 6)
    · simp [bI]
    · cases may τ 1 (s / tH τ) (s % tH τ) (i % 6)
      · simp [bI]
      · by_cases k3 : kd τ (s / tH τ) = 3
        · simp [k3, bI]
        · by_cases o0 : o = 0
          · rcases y2 with rfl | rfl <;> simp [k3, o0, bI]
          · rcases y2 with rfl | rfl <;> simp [k3, o0, bI]
  unfold fX11_fits
  rw [h1]
  simp only [lit, q1, not_false_iff, if_true, e_mul, q2, q3, z2, z3, hc _ (show i / 6 < 6 by omega), hc _ (show i % 6 < 6 by omega), e_eq (show cl τ (i / 6) < 2 ^ 31 by omega) (show cl τ (i % 6) < 2 ^ 31 by omega), div_nI (show s < 2 ^ 31 by omega) (show 0 < tH τ by omega) (show tH τ < 2 ^ 31 by omega), irm_nI (show s < 2 ^ 31 by omega) (show 0 < tH τ by omega) (show tH τ < 2 ^ 31 by omega), f41 1 (by omega), f41 0 (by omega)]
  unfold al kt
  by_cases c : cl τ (i / 6) = cl τ (i % 6)
  · rw [if_pos c]; simp [c]
  · rw [if_neg c]; simp [c]
theorem m_pbread (hm : RT Tm τ) {s i : Nat} (hs : s < sS τ) (hi : i < 36) (hal : al τ o s i = true) : fX11_breadOf Tm (nI s) (nI (i / 6)) (nI (i % 6)) = some (nI (mk τ s i)) := by
  have h24 := sS_24 hm.1
  have ph := s_ph hm.1 hs
  have hN := hm.1.1
  have hH := hm.1.2.1
  unfold al at hal
  simp only [Bool.and_eq_true] at hal
  have n0 := may_cn hm.1 hal.1.1
  have n1 := may_cn hm.1 hal.1.2
  obtain ⟨tw, h0, h1, h2, h3, hk, hc, hb, hwo, hmn⟩ := hm
  have hkd := tw.2.2.2.2.1 (s / tH τ)
  have b0 := hb 0 (i / 6) (by omega) (by omega)
  have b1 := hb 1 (i % 6) (by omega) (by omega)
  have l0 := tw.2.2.2.2.2.2.2.2.2.1 0 (i / 6)
  have l1 := tw.2.2.2.2.2.2.2.2.2.1 1 (i % 6)
  unfold bcell at b0 b1
  rw [if_pos n0] at b0
  rw [if_pos n1] at b1
  rw [show 4 * (i / 6) + 1 + 0 = 4 * (i / 6) + 1 from rfl] at b0
  rw [show 4 * (i % 6) + 1 + 1 = 4 * (i % 6) + 2 from rfl] at b1
  have q1 : (nI (tH τ) = nI 0) = False := by rw [e_eq (by omega) (by omega)]; exact eq_false (by omega)
  have q2 : (ix (nI (4 * (i / 6) + 1)) 24) = True := by rw [e_ix (by omega)]; exact eq_true (by omega)
  have q3 : (ix (nI (4 * (i % 6) + 2)) 24) = True := by rw [e_ix (by omega)]; exact eq_true (by omega)
  have q4 : (ix (nI (s / tH τ)) 6) = True := by rw [e_ix (by omega)]; exact eq_true (by omega)
  have z2 := cl_nI (show 4 * (i / 6) + 1 < 2 ^ 31 by omega)
  have z3 := cl_nI (show 4 * (i % 6) + 2 < 2 ^ 31 by omega)
  have z4 := cl_nI (show s / tH τ < 2 ^ 31 by omega)
  unfold fX11_breadOf
  rw [h1]
  simp only [lit, q1, not_false_iff, if_true, e_mul, e_add, q2, q3, q4, z2, z3, z4, b0, b1, div_nI (show s < 2 ^ 31 by omega) (show 0 < tH τ by omega) (show tH τ < 2 ^ 31 by omega), hk _ (show s / tH τ < 6 by omega), e_eq (show kd τ (s / tH τ) < 2 ^ 31 by omega) (show 2 < 2 ^ 31 by omega), div_nI (show br τ 0 (i / 6) < 2 ^ 31 by omega) (show 0 < 2 by omega) (show 2 < 2 ^ 31 by omega), div_nI (show br τ 1 (i % 6) < 2 ^ 31 by omega) (show 0 < 2 by omega) (show 2 < 2 ^ 31 by omega)]
  unfold mk bm
  by_cases c : kd τ (s / tH τ) = 2
  · rw [if_pos c, if_pos c, if_pos c]
  · rw [if_neg c, if_neg c, if_neg c]
theorem m_worthBy (hm : RT Tm τ) {s i r : Nat} {B : Nat → Nat} (ho : o < 2) (hs : s < sS τ) (hi : i < 36) (hr : r < 201) (hB : ∀ x, x ≤ r → Tm 9 (201 * (s + 1) + x) = pI (B x)) (hBb : ∀ x, B x < 2 ^ 18) : fX11_worthBy Tm (nI s) (nI o) (nI r) (nI (i / 6)) (nI (i % 6)) = some (pI (gP τ o s B r i)) := by
  have h24 := sS_24 hm.1
  unfold fX11_worthBy gP
  simp only [lit, m_fits hm ho hs hi, bd1_s, bI_0]
  cases hal : al τ o s i
  · rw [if_pos rfl, if_neg (by simp)]; rfl
  · rw [if_neg (by simp), if_pos rfl]
    have ml := mk_le hm.1 s i
    have bl := hBb (r - mk τ s i)
    have tb := hB (r - mk τ s i) (by omega)
    simp only [m_pbread hm hs hi hal, bd1_s, e_sb0 (show r < 2 ^ 30 by omega) (show mk τ s i < 2 ^ 30 by omega), e_add, e_mul]
    have f50 : fX11_worthBy_50 Tm (nI (i / 6)) (nI (i % 6)) (nI (201 * (s + 1))) (nI (r - mk τ s i)) = some (pI (up (B (r - mk τ s i)) (ww τ i))) := by
      obtain ⟨tw, -, -, -, -, -, -, -, hwo, -⟩ := hm
      have w1 := hwo (i / 6) (by omega)
      have w2 := hwo (i % 6) (by omega)
      have q2 : (ix (nI (4 * (i / 6) + 3)) 24) = True := by rw [e_ix (by omega)]; exact eq_true (by omega)
      have q3 : (ix (nI (4 * (i % 6) + 3)) 24) = True := by rw [e_ix (by omega)]; exact eq_true (by omega)
      have q4 : (ix (nI (201 * (s + 1) + (r - mk τ s i))) 5025) = True := by rw [e_ix (by omega)]; exact eq_true (by omega)
      have z2 := cl_nI (show 4 * (i / 6) + 3 < 2 ^ 31 by omega)
      have z3 := cl_nI (show 4 * (i % 6) + 3 < 2 ^ 31 by omega)
      have z4 := cl_nI (show 201 * (s + 1) + (r - mk τ s i) < 2 ^ 31 by omega)
      unfold fX11_worthBy_50
      simp only [m1_eq]
      simp only [lit, e_add, e_mul, q2, q3, q4, if_true, z2, z3, z4, tb, w1, w2, pI_m1 (show B (r - mk τ s i) < 2 ^ 30 by omega)]
      unfold up
      by_cases c : B (r - mk τ s i) = 0
      · simp only [eq_true c, if_true]; rfl
      · simp only [eq_false c, if_false]
        have wl := ww_le tw i
        rw [pI_pos (show 0 < B (r - mk τ s i) by omega), pI_pos (by omega), e_add, e_add]
        unfold ww
        congr 2
        omega
    by_cases c : r ≤ mk τ s i
    · rw [if_pos c]
      rw [Nat.sub_eq_zero_of_le c] at f50 ⊢
      exact f50
    · rw [if_neg c, e_sub (by omega)]
      exact f50
/-- the rows of the reference from a place on -/
def Mt (τ : TD) (o w s : Nat) (Tm : Gp) : Prop := ∀ s', s ≤ s' → s' ≤ sS τ → ∀ r, r ≤ w → Tm 9 (201 * s' + r) = pI (PV τ o (sS τ - s') r)
theorem FO_9 {i : Nat} {v : Int32} : FO 0 Tm (u2 Tm 9 i v) := FO_u (Or.inr rfl)
theorem m_73 (hm : RT Tm τ) (rec53 : Gp → Int32 → Int32 → Int32 → Option Gp) (rec61 : Gp → Int32 → Int32 → Int32 → Int32 → Option Gp) {s r : Nat} (ho : o < 2) (hs : s < sS τ) (hw2 : w < 201) (hr : r ≤ w) (hT : Mt τ o w (s + 1) Tm) : ∀ k i n acc, i + k = 36 → k < n → acc < 2 ^ 18 → lX11_layWorths_73 rec53 rec61 n Tm (nI o) (nI w) (nI s) (nI r) (pI acc) (nI i) = rec61 (u2 Tm 9 (201 * s + r) (pI (fo (gS τ o s r) k i acc))) (nI o) (nI w) (nI s) (nI (r + 1)) := by
  have h24 := sS_24 hm.1
  intro k
  induction k with
  | zero =>
    intro i n acc hk hn ha
    obtain ⟨n, rfl, -⟩ := gt_s hn
    rw [sX11_layWorths_73]
    unfold fX11_layWorths_73
    have q0 : (nI 36 ≤ nI i) = True := by rw [e_le (by omega) (by omega)]; exact eq_true (by omega)
    have q4 : (ix (nI (201 * s + r)) 5025) = True := by rw [e_ix (by omega)]; exact eq_true (by omega)
    simp only [lit, q0, if_true, e_mul, e_add, q4]
    rw [cl_nI (by omega)]
    rfl
  | succ k ih =>
    intro i n acc hk hn ha
    obtain ⟨n, rfl, hn⟩ := gt_s hn
    rw [sX11_layWorths_73]
    unfold fX11_layWorths_73
    have q0 : (nI 36 ≤ nI i) = False := by rw [e_le (by omega) (by omega)]; exact eq_false (by omega)
    have bb : ∀ x, PV τ o (sS τ - (s + 1)) x < 2 ^ 18 - 2 ^ 10 := fun x => by
      have := PV_le (o := o) hm.1 (sS τ - (s + 1)) x
      omega
    have wb := m_worthBy hm ho hs (show i < 36 by omega) (show r < 201 by omega) (B := PV τ o (sS τ - (s + 1))) (fun x hx => hT (s + 1) (by omega) (by omega) x (by omega)) (fun x => by have := bb x; omega)
    have gl : gP τ o s (PV τ o (sS τ - (s + 1))) r i < 2 ^ 18 := by
      unfold gP up
      have := bb (r - mk τ s i)
      have := ww_le hm.1 i
      split
      · split <;> omega
      · omega
    simp only [lit, q0, if_false, irm_nI (show i < 2 ^ 31 by omega) (show 0 < 6 by omega) (show 6 < 2 ^ 31 by omega), div_nI (show i < 2 ^ 31 by omega) (show 0 < 6 by omega) (show 6 < 2 ^ 31 by omega), wb, bd1_s, pI_le (show gP τ o s (PV τ o (sS τ - (s + 1))) r i < 2 ^ 30 by omega) (show acc < 2 ^ 30 by omega), e_add]
    show _ = rec61 (u2 Tm 9 (201 * s + r) (pI (fo (gS τ o s r) k (i + 1) (max acc (gS τ o s r i))))) (nI o) (nI w) (nI s) (nI (r + 1))
    have gd : gS τ o s r i = gP τ o s (PV τ o (sS τ - (s + 1))) r i := rfl
    rw [gd]
    by_cases c : gP τ o s (PV τ o (sS τ - (s + 1))) r i ≤ acc
    · rw [if_pos c, Nat.max_eq_left c]
      exact ih (i + 1) n acc (by omega) (by omega) ha
    · rw [if_neg c, Nat.max_eq_right (by omega)]
      exact ih (i + 1) n _ (by omega) (by omega) gl
theorem m_61 (rec53 : Gp → Int32 → Int32 → Int32 → Option Gp) {s : Nat} (ho : o < 2) (hs : s < sS τ) (hw2 : w < 201) : ∀ k r n Tm, r + k = w + 1 → k < n → RT Tm τ → Mt τ o w (s + 1) Tm → (∀ x, x < r → Tm 9 (201 * s + x) = pI (PV τ o (sS τ - s) x)) → ∃ Ta, lX11_layWorths_61 rec53 n Tm (nI o) (nI w) (nI s) (nI r) = rec53 Ta (nI o) (nI w) (nI s - nI 1) ∧ Mt τ o w s Ta ∧ FO 0 Tm Ta := by
  intro k
  induction k with
  | zero =>
    intro r n Tm hk hn hm hT hR
    have h24 := sS_24 hm.1
    obtain ⟨n, rfl, -⟩ := gt_s hn
    rw [sX11_layWorths_61]
    unfold fX11_layWorths_61
    have q0 : (nI w < nI r) = True := by rw [e_lt (by omega) (by omega)]; exact eq_true (by omega)
    simp only [m1_eq]
    simp only [lit, q0, if_true, xm_s]
    refine ⟨Tm, rfl, fun s' h1 h2 x hx => ?_, FO_r _ _⟩
    by_cases c : s' = s
    · rw [c]; exact hR x (by omega)
    · exact hT s' (by omega) h2 x hx
  | succ k ih =>
    intro r n Tm hk hn hm hT hR
    have h24 := sS_24 hm.1
    obtain ⟨n, rfl, hn⟩ := gt_s hn
    rw [sX11_layWorths_61]
    unfold fX11_layWorths_61
    have q0 : (nI w < nI r) = False := by rw [e_lt (by omega) (by omega)]; exact eq_false (by omega)
    simp only [m1_eq]
    simp only [lit, q0, if_false]
    rw [← pI_0, m_73 hm rec53 (lX11_layWorths_61 rec53 n) ho hs hw2 (show r ≤ w by omega) hT 36 0 fu 0 (by omega) (fu_gt (by omega)) (by omega), ← PV_e hs]
    obtain ⟨Ta, e1, e2, e3⟩ := ih (r + 1) n (u2 Tm 9 (201 * s + r) (pI (PV τ o (sS τ - s) r))) (by omega) (by omega) (RT_0 hm FO_9) (fun s' h1 h2 x hx => by
      rw [u2_ap, if_neg (by omega)]
      exact hT s' h1 h2 x hx) (fun x hx => by
      rw [u2_ap]
      by_cases c : x = r
      · rw [if_pos ⟨rfl, by rw [c]⟩, c]
      · rw [if_neg (by omega)]
        exact hR x (by omega))
    exact ⟨Ta, e1, e2, FO_t FO_9 e3⟩
theorem m_53 (ho : o < 2) (hw2 : w < 201) : ∀ k n Tm, k ≤ sS τ → k < n → RT Tm τ → Mt τ o w k Tm → ∃ Ta, lX11_layWorths_53 n Tm (nI o) (nI w) (nI k - nI 1) = some Ta ∧ Mt τ o w 0 Ta ∧ FO 0 Tm Ta := by
  intro k
  induction k with
  | zero =>
    intro n Tm hk hn hm hT
    obtain ⟨n, rfl, -⟩ := gt_s hn
    rw [sX11_layWorths_53]
    unfold fX11_layWorths_53
    have q0 : (nI 0 - nI 1 < nI 0) = True := eq_true (by decide)
    simp only [lit, q0, if_true]
    exact ⟨Tm, rfl, hT, FO_r _ _⟩
  | succ k ih =>
    intro n Tm hk hn hm hT
    have h24 := sS_24 hm.1
    obtain ⟨n, rfl, hn⟩ := gt_s hn
    rw [sX11_layWorths_53]
    unfold fX11_layWorths_53
    have e0 : nI (k + 1) - nI 1 = nI k := by rw [e_sub (by omega)]; rfl
    have q0 : (nI k < nI 0) = False := by rw [e_lt (by omega) (by omega)]; exact eq_false (by omega)
    rw [e0]
    simp only [lit, q0, if_false]
    obtain ⟨Ta, e1, e2, e3⟩ := m_61 (lX11_layWorths_53 n) ho (show k < sS τ by omega) hw2 (w + 1) 0 fu Tm (by omega) (fu_gt (by omega)) hm hT (fun x hx => by omega)
    obtain ⟨Tb, f1, f2, f3⟩ := ih n Ta (by omega) (by omega) (RT_0 hm e3) e2
    exact ⟨Tb, e1.trans f1, f2, FO_t e3 f3⟩
theorem m_13 (ho : o < 2) (hw2 : w < 201) : ∀ k r n Tm, r + k = w + 1 → k < n → RT Tm τ → (∀ x, x < r → Tm 9 (201 * sS τ + x) = pI (if x = 0 then 1 else 0)) → ∃ Ta, lX11_layWorths_13 n Tm (nI o) (nI w) (nI (sS τ)) (nI r) = some Ta ∧ Mt τ o w 0 Ta ∧ FO 0 Tm Ta := by
  intro k
  induction k with
  | zero =>
    intro r n Tm hk hn hm hR
    have h24 := sS_24 hm.1
    obtain ⟨n, rfl, -⟩ := gt_s hn
    rw [sX11_layWorths_13]
    unfold fX11_layWorths_13
    have q0 : (nI w < nI r) = True := by rw [e_lt (by omega) (by omega)]; exact eq_true (by omega)
    simp only [lit, q0, if_true]
    exact m_53 ho hw2 (sS τ) fu Tm (by omega) (fu_gt (by omega)) hm (fun s' h1 h2 x hx => by
      have es : s' = sS τ := Nat.le_antisymm h2 h1
      rw [es, Nat.sub_self, hR x (by omega)]
      rfl)
  | succ k ih =>
    intro r n Tm hk hn hm hR
    have h24 := sS_24 hm.1
    obtain ⟨n, rfl, hn⟩ := gt_s hn
    rw [sX11_layWorths_13]
    unfold fX11_layWorths_13
    have q0 : (nI w < nI r) = False := by rw [e_lt (by omega) (by omega)]; exact eq_false (by omega)
    have q4 : (ix (nI (201 * sS τ + r)) 5025) = True := by rw [e_ix (by omega)]; exact eq_true (by omega)
    have z := cl_nI (show 201 * sS τ + r < 2 ^ 31 by omega)
    simp only [m1_eq]
    simp only [lit, q0, if_false, e_mul, e_add, q4, if_true, z, e_eq (show r < 2 ^ 31 by omega) (show 0 < 2 ^ 31 by omega)]
    have fin : ∀ v : Int32, v = pI (if r = 0 then 1 else 0) → ∃ Ta, lX11_layWorths_13 n (u2 Tm 9 (201 * sS τ + r) v) (nI o) (nI w) (nI (sS τ)) (nI (r + 1)) = some Ta ∧ Mt τ o w 0 Ta ∧ FO 0 Tm Ta := by
      intro v hv
      obtain ⟨Ta, e1, e2, e3⟩ := ih (r + 1) n (u2 Tm 9 (201 * sS τ + r) v) (by omega) (by omega) (RT_0 hm FO_9) (fun x hx => by
        rw [u2_ap]
        by_cases c : x = r
        · rw [if_pos ⟨rfl, by rw [c]⟩, c]; exact hv
        · rw [if_neg (by omega)]
          exact hR x (by omega))
      exact ⟨Ta, e1, e2, FO_t FO_9 e3⟩
    by_cases c : r = 0
    · simp only [eq_true c, if_true]
      exact fin (nI 0) (by rw [if_pos c]; rfl)
    · simp only [eq_false c, if_false]
      exact fin (-nI 1) (by rw [if_neg c]; rfl)
theorem m_lay (hm : RT Tm τ) (ho : o < 2) (hw2 : w < 201) : ∃ Ta, fX11_layWorths Tm (nI o) (nI w) = some Ta ∧ Mt τ o w 0 Ta ∧ FO 0 Tm Ta := by
  obtain ⟨Ta, e⟩ := m_13 ho hw2 (w + 1) 0 fu Tm (by omega) (fu_gt (by omega)) hm (fun x hx => by omega)
  refine ⟨Ta, ?_, e.2⟩
  unfold fX11_layWorths
  rw [hm.2.1, hm.2.2.1, e_mul]
  exact e.1
end PLM
