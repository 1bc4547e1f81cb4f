/-! slips: the spec, in units of 64 and a count -/
def cc (b : Nat → Bool) (c t w : Nat) : Nat := if b t = decide ((t + w) % 2 = 0) then 0 else c
def kN (b : Nat → Bool) (a c : Nat) : Nat → Nat → Nat → Nat
  | 0, _, _ => 0
  | k + 1, t, w => 64 * cc b c t w + min (kN b a c k (t + 1) w) (64 * a + 1 + kN b a c k (t + 1) (1 - w))
theorem cc_le (b : Nat → Bool) {c : Nat} (t w : Nat) : cc b c t w ≤ c := by unfold cc; split <;> omega
theorem kN_le (b : Nat → Bool) {a c : Nat} (hc : c ≤ 9) : ∀ k t w, kN b a c k t w ≤ 576 * k := by
  intro k
  induction k with
  | zero => intro t w; exact Nat.le_refl _
  | succ k ih =>
    intro t w
    have h1 := ih (t + 1) w
    have h2 := cc_le b (c := c) t w
    show 64 * cc b c t w + min (kN b a c k (t + 1) w) (64 * a + 1 + kN b a c k (t + 1) (1 - w)) ≤ _
    omega
theorem kN_mod (b : Nat → Bool) (a c : Nat) : ∀ k t w, k ≤ 60 → kN b a c k t w % 64 ≤ k := by
  intro k
  induction k with
  | zero => intro t w _; exact Nat.le_refl _
  | succ k ih =>
    intro t w hk
    have h1 := ih (t + 1) w (by omega)
    have h2 := ih (t + 1) (1 - w) (by omega)
    show (64 * cc b c t w + min (kN b a c k (t + 1) w) (64 * a + 1 + kN b a c k (t + 1) (1 - w))) % 64 ≤ _
    by_cases h : kN b a c k (t + 1) w ≤ 64 * a + 1 + kN b a c k (t + 1) (1 - w)
    · rw [Nat.min_eq_left h]; omega
    · rw [Nat.min_eq_right (by omega)]; omega
/-- K at day t, of L days -/
def kT (b : Nat → Bool) (a c L t w : Nat) : Nat := kN b a c (L - t) t w
def mS (b : Nat → Bool) (a c L t w : Nat) : Nat := min (kT b a c L t w) (64 * a + 1 + kT b a c L t (1 - w))
def sT (b : Nat → Bool) (a c L t w : Nat) : Nat := if t = 0 then kT b a c L t w else mS b a c L t w
theorem kT_s (b : Nat → Bool) (a c : Nat) {L t : Nat} (w : Nat) (h : t < L) : kT b a c L t w = 64 * cc b c t w + mS b a c L (t + 1) w := by
  unfold mS kT
  rw [show L - t = (L - (t + 1)) + 1 by omega]
  rfl
theorem kT_L (b : Nat → Bool) (a c L w : Nat) : kT b a c L L w = 0 := by
  unfold kT
  rw [Nat.sub_self]
  rfl
theorem kT_le (b : Nat → Bool) {a c L : Nat} (hc : c ≤ 9) (hL : L ≤ 40) (t w : Nat) : kT b a c L t w ≤ 23040 := by
  have := kN_le b (a := a) hc (L - t) t w
  unfold kT
  omega
theorem kT_mod (b : Nat → Bool) (a c : Nat) {L : Nat} (hL : L ≤ 40) (t w : Nat) : kT b a c L t w % 64 ≤ 40 := by
  have := kN_mod b a c (L - t) t w (by omega)
  unfold kT
  omega
def eE (x : Nat) : Nat := x + 36 * (x / 64)
def pN (t : Nat) : Int32 := nI t - nI 1
theorem pN_0 : pN 0 = -nI 1 := by decide
theorem pN_s (t : Nat) : pN (t + 1) = nI t := e_sub (by omega)
theorem pN_d (t : Nat) : nI t + -nI 1 = pN t := (Int32.sub_eq_add_neg _ _).symm
theorem m1_lt : (-nI 1 < nI 0) = True := by apply eq_true; decide
section SLIPS
variable {Tm Tr : Gp}
theorem c_costOf {b : Nat → Bool} {L : Nat} (hL : L ≤ 40) (h0 : Tr 0 0 = nI L) (hb : ∀ i, i < L → Tr 1 i = bI (b i)) {t w c : Nat} (ht : t < L) (hw : w < 2) : fX6_costOf Tr (nI t) (nI w) (nI c) = some (nI (64 * cc b c t w)) := by
  have q1 : (ix (nI t) 40) = True := by rw [e_ix (by omega)]; exact eq_true (by omega)
  have q2 : irm (nI (t + w)) (nI 2) = nI ((t + w) % 2) := irm_nI (by omega) (by omega) (by omega)
  have q3 : (nI t < nI 0) = False := by rw [e_lt (by omega) (by omega)]; exact eq_false (by omega)
  have q4 : (nI L ≤ nI t) = False := by rw [e_le (by omega) (by omega)]; exact eq_false (by omega)
  have q5 : (nI 40 ≤ nI t) = False := by rw [e_le (by omega) (by omega)]; exact eq_false (by omega)
  have z := cl_nI (show t < 2 ^ 31 by omega)
  have hbt := hb t ht
  have k : ∀ y : Nat, y < 2 → fX6_costOf_13 Tr (nI t) (nI c) (nI y) = some (nI (if b t = decide (y = 1) then 0 else 64 * c)) := by
    intro y hy
    unfold fX6_costOf_13 fX6_costOf_46 fX6_costOf_47
    simp only [lit, h0, q1, q3, q4, q5, z, hbt, bI_0, if_true, if_false, e_mul, e_eq (show 0 < 2 ^ 31 by omega) (show y < 2 ^ 31 by omega), e_eq (show 1 < 2 ^ 31 by omega) (show y < 2 ^ 31 by omega)]
    have y2 : y = 0 ∨ y = 1 := by omega
    rcases y2 with rfl | rfl <;> cases b t <;> simp [Nat.mul_comm]
  have k0 := k 0 (by omega)
  have k1 := k 1 (by omega)
  unfold fX6_costOf
  simp only [lit, e_add, q2, e_eq (show (t + w) % 2 < 2 ^ 31 by omega) (show 0 < 2 ^ 31 by omega), k0, k1]
  unfold cc
  by_cases h : (t + w) % 2 = 0
  · cases b t <;> simp [h]
  · cases b t <;> simp [h]
theorem c_lfrom (Tr : Gp) {d w : Nat} (h : 2 * d + w < 82) : fX6_leastFrom Tr (nI d) (nI w) = some (Tr 2 (2 * d + w)) := by
  have w1 : fX10_within (nI (2 * d + w)) (nI 0) (nI 82 - nI 1) = some (bI true) := by
    rw [show nI 82 - nI 1 = nI (82 - 1) from rfl, within_ok (by omega) (by omega), ok_nI h (by omega)]
  have q : (ix (nI (2 * d + w)) 82) = True := by rw [e_ix (by omega)]; exact eq_true h
  have z := cl_nI (show 2 * d + w < 2 ^ 31 by omega)
  unfold fX6_leastFrom
  simp only [lit, e_mul, e_add, w1, bd1_s, bI_0, Bool.true_eq_false, if_false, q, z, if_true]
theorem c_slipTo (Tr : Gp) {d w a v : Nat} (h : 2 * d + w < 82) (g : Tr 2 (2 * d + w) = nI v) : fX6_slipTo Tr (nI d) (nI w) (nI a) = some (nI (a * 64 + 1 + v)) := by
  unfold fX6_slipTo
  rw [c_lfrom Tr h, g]
  simp only [lit, bd1_s, e_mul, e_add]
/-- the table of the class -/
def tC (b : Nat → Bool) (a c L t : Nat) (Tr : Gp) : Prop := ∀ s w, t ≤ s → s ≤ L → w < 2 → Tr 2 (2 * s + w) = nI (kT b a c L s w)
theorem c_rstep {b : Nat → Bool} {L a c : Nat} (hL : L ≤ 40) (ha : a ≤ 9) (hc : c ≤ 9) (rec15 : Gp → Int32 → Int32 → Int32 → Option (Int32 × Gp)) {t w : Nat} (ht : t < L) (hw : w < 2) (n : Nat) (h0 : Tr 0 0 = nI L) (hb : ∀ i, i < L → Tr 1 i = bI (b i)) (h : tC b a c L (t + 1) Tr) : lX6_reckon_22 rec15 (n + 1) Tr (nI a) (nI c) (nI t) (nI w) = lX6_reckon_22 rec15 n (u2 Tr 2 (2 * t + w) (nI (kT b a c L t w))) (nI a) (nI c) (nI t) (nI (w + 1)) := by
  have k1 := c_costOf hL h0 hb ht hw (c := c)
  have g1 := h (t + 1) w (by omega) (by omega) hw
  have g2 := h (t + 1) (1 - w) (by omega) (by omega) (by omega)
  have l1 := kT_le b (a := a) hc hL (t + 1) w
  have l2 := kT_le b (a := a) hc hL (t + 1) (1 - w)
  have f1 := c_lfrom Tr (show 2 * (t + 1) + w < 82 by omega)
  rw [g1] at f1
  have f2 := c_slipTo Tr (a := a) (show 2 * (t + 1) + (1 - w) < 82 by omega) g2
  have w1 : fX10_within (nI (2 * t + w)) (nI 0) (nI 82 - nI 1) = some (bI true) := by
    rw [show nI 82 - nI 1 = nI (82 - 1) from rfl, within_ok (by omega) (by omega), ok_nI (by omega) (by omega)]
  rw [sX6_reckon_22]
  unfold fX6_reckon_22
  have hs : nI 1 - nI w = nI (1 - w) := e_sub (by omega)
  have q0 : (nI 2 ≤ nI w) = False := by rw [e_le (by omega) (by omega)]; exact eq_false (by omega)
  have q3 : (ix (nI (2 * t + w)) 82) = True := by rw [e_ix (by omega)]; exact eq_true (by omega)
  have z := cl_nI (show 2 * t + w < 2 ^ 31 by omega)
  simp only [lit, e_add, e_mul, hs, q0, q3, z, w1, f1, f2, k1, bd1_s, bI_0, Bool.true_eq_false, if_true, if_false]
  rw [e_imn (by omega) (by omega), e_add, kT_s b a c w ht]
  unfold mS
  rw [Nat.mul_comm a 64]
theorem c_reckon15 {b : Nat → Bool} {L a c : Nat} (hL : L ≤ 40) (ha : a ≤ 9) (hc : c ≤ 9) : ∀ (t n : Nat) (Tr : Gp), t ≤ L → t < n → Tr 0 0 = nI L → (∀ i, i < L → Tr 1 i = bI (b i)) → tC b a c L t Tr → ∃ Ta, lX6_reckon_15 n Tr (nI a) (nI c) (pN t) = some (nI (kT b a c L 0 0), Ta) ∧ tC b a c L 0 Ta ∧ ∀ d, d ≠ 2 → Ta d = Tr d := by
  intro t
  induction t with
  | zero =>
    intro n Tr ht hn h0 hb h
    obtain ⟨n, rfl, -⟩ := gt_s hn
    refine ⟨Tr, ?_, h, fun _ _ => rfl⟩
    rw [sX6_reckon_15]
    unfold fX6_reckon_15
    simp only [lit, pN_0, m1_lt, if_true]
    rw [c_lfrom Tr (show 2 * 0 + 0 < 82 by omega), h 0 0 (by omega) (by omega) (by omega), bd1_s]
  | succ t ih =>
    intro n Tr ht hn h0 hb h
    obtain ⟨n, rfl, hn⟩ := gt_s hn
    let T1 : Gp := u2 Tr 2 (2 * t + 0) (nI (kT b a c L t 0))
    let T2 : Gp := u2 T1 2 (2 * t + 1) (nI (kT b a c L t 1))
    have hf : ∃ m, fu = m + 1 + 1 + 1 := by
      obtain ⟨m, hm⟩ := fu_ex
      exact ⟨m + 99987, hm⟩
    obtain ⟨m, hm⟩ := hf
    have s1 := c_rstep hL ha hc (lX6_reckon_15 n) (show t < L by omega) (show 0 < 2 by omega) (m + 1 + 1) h0 hb h
    have s2 := c_rstep (Tr := T1) hL ha hc (lX6_reckon_15 n) (show t < L by omega) (show 1 < 2 by omega) (m + 1) (by
      show u2 Tr 2 (2 * t + 0) _ 0 0 = _
      rw [u2_c (by omega)]; exact h0) (fun i hi => by
      show u2 Tr 2 (2 * t + 0) _ 1 i = _
      rw [u2_c (by omega)]; exact hb i hi) (fun s w h1 h2 h3 => by
      show u2 Tr 2 (2 * t + 0) _ 2 (2 * s + w) = _
      rw [u2_i (by omega)]; exact h s w h1 h2 h3)
    have s3 : lX6_reckon_22 (lX6_reckon_15 n) (m + 1) T2 (nI a) (nI c) (nI t) (nI 2) = lX6_reckon_15 n T2 (nI a) (nI c) (pN t) := by
      rw [sX6_reckon_22]
      unfold fX6_reckon_22
      simp only [m1_eq]
      simp only [lit, pN_d]
      exact if_pos (by rw [e_le (by omega) (by omega)]; omega)
    obtain ⟨Ta, e, g, f⟩ := ih n T2 (by omega) (by omega) (by
      show u2 (u2 Tr 2 (2 * t + 0) _) 2 (2 * t + 1) _ 0 0 = _
      rw [u2_c (by omega), u2_c (by omega)]; exact h0) (fun i hi => by
      show u2 (u2 Tr 2 (2 * t + 0) _) 2 (2 * t + 1) _ 1 i = _
      rw [u2_c (by omega), u2_c (by omega)]; exact hb i hi) (fun s w h1 h2 h3 => by
      show u2 (u2 Tr 2 (2 * t + 0) _) 2 (2 * t + 1) _ 2 (2 * s + w) = _
      rw [u2_ap, u2_ap]
      by_cases h4 : s = t
      · have hw2 : w = 0 ∨ w = 1 := by omega
        rcases hw2 with rfl | rfl
        · rw [if_neg (by omega), if_pos (by omega), h4]
        · rw [if_pos (by omega), h4]
      · rw [if_neg (by omega), if_neg (by omega)]
        exact h s w (by omega) h2 h3)
    refine ⟨Ta, ?_, g, fun d hd => ?_⟩
    · rw [sX6_reckon_15]
      unfold fX6_reckon_15
      have q0 : (nI t < nI 0) = False := by rw [e_lt (by omega) (by omega)]; exact eq_false (by omega)
      simp only [lit, pN_s, q0, if_false]
      rw [hm, s1, s2, s3, e]
    · rw [f d hd]
      show u2 (u2 Tr 2 (2 * t + 0) _) 2 (2 * t + 1) _ d = _
      rw [u2_c hd, u2_c hd]
theorem c_reckon {b : Nat → Bool} {L a c : Nat} (hL : L ≤ 40) (ha : a ≤ 9) (hc : c ≤ 9) (h0 : Tr 0 0 = nI L) (hb : ∀ i, i < L → Tr 1 i = bI (b i)) : ∃ Ta, fX6_reckon Tr (nI a) (nI c) = some (nI (kT b a c L 0 0), Ta) ∧ tC b a c L 0 Ta ∧ ∀ d, d ≠ 2 → Ta d = Tr d := by
  have hu : ∀ d, d ≠ 2 → uc Tr 2 (ev_fill (Tr 2) 82 (nI 0)) d = Tr d := fun d hd => by simp [uc, hd]
  obtain ⟨Ta, e, g, f⟩ := c_reckon15 hL ha hc L fu (uc Tr 2 (ev_fill (Tr 2) 82 (nI 0))) (Nat.le_refl _) (fu_gt (by omega)) (by rw [hu 0 (by omega)]; exact h0) (fun i hi => by rw [hu 1 (by omega)]; exact hb i hi) (fun s w h1 h2 h3 => by
    have hs : s = L := by omega
    rw [hs, kT_L, uc_ap, if_pos rfl, ev_fill_ap _ _ _ (by omega)])
  refine ⟨Ta, ?_, g, fun d hd => ?_⟩
  · unfold fX6_reckon
    rw [h0]
    simp only [lit]
    exact e
  · rw [f d hd, hu d hd]
end SLIPS
