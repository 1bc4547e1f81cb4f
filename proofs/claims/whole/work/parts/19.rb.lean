section SLIPM
variable {Tm Tr : Gp}
def tM (b : Nat → Bool) (a c L t : Nat) (Tm : Gp) : Prop := ∀ s w, t ≤ s → s ≤ L → w < 2 → Tm 18 (2 * s + w) = nI (eE (sT b a c L s w))
theorem eE_le {x : Nat} (h : x ≤ 24000) : eE x ≤ 40000 := by unfold eE; omega
theorem sT_s (b : Nat → Bool) (a c L t w : Nat) : sT b a c L (t + 1) w = mS b a c L (t + 1) w := if_neg (by omega)
theorem mS_le (b : Nat → Bool) {a c L : Nat} (hc : c ≤ 9) (hL : L ≤ 40) (t w : Nat) : mS b a c L t w ≤ 23040 := by
  have := kT_le b (a := a) hc hL t w
  unfold mS
  omega
theorem m_stays {b : Nat → Bool} {L a c : Nat} (hL : L ≤ 40) (hc : c ≤ 9) (hb : ∀ i, i < L → Tm 17 i = bI (b i)) {t w : Nat} (ht : t < L) (hw : w < 2) (h : ∀ w, w < 2 → Tm 18 (2 * (t + 1) + w) = nI (eE (sT b a c L (t + 1) w))) : fX11_stays Tm (nI t) (nI w) (nI c) = some (nI (eE (kT b a c L t w))) := by
  have g := h w hw
  have l := mS_le b (a := a) hc hL (t + 1) w
  unfold fX11_stays fX11_stays_13 fX11_stays_44
  simp only [lit, e_add, e_mul]
  have q0 : irm (nI (t + w)) (nI 2) = nI ((t + w) % 2) := irm_nI (by omega) (by omega) (by omega)
  have q1 : (ix (nI (2 * t + 2 + w)) 82) = True := by rw [e_ix (by omega)]; exact eq_true (by omega)
  have q2 : (ix (nI t) 40) = True := by rw [e_ix (by omega)]; exact eq_true (by omega)
  simp only [q0, q1, q2, if_true]
  rw [cl_nI (show 2 * t + 2 + w < 2 ^ 31 by omega), cl_nI (show t < 2 ^ 31 by omega), hb t ht, show 2 * t + 2 + w = 2 * (t + 1) + w by omega, g, sT_s]
  have h10 : (nI 1 = nI 0) = False := by rw [e_eq (by omega) (by omega)]; exact eq_false (by omega)
  have h01 : (nI 0 = nI 1) = False := by rw [e_eq (by omega) (by omega)]; exact eq_false (by omega)
  simp only [bI_1, e_add, e_eq (show (t + w) % 2 < 2 ^ 31 by omega) (show 0 < 2 ^ 31 by omega), h10, h01, if_true, if_false]
  rw [kT_s b a c w ht]
  have e0 : eE (mS b a c L (t + 1) w) + 0 = eE (64 * 0 + mS b a c L (t + 1) w) := by unfold eE; omega
  have e1 : eE (mS b a c L (t + 1) w) + 100 * c = eE (64 * c + mS b a c L (t + 1) w) := by unfold eE; omega
  rw [e0, e1]
  unfold cc
  by_cases h : (t + w) % 2 = 0
  · cases b t <;> simp [h]
  · cases b t <;> simp [h]
theorem m_sstep {b : Nat → Bool} {L a c : Nat} (hL : L ≤ 40) (ha : a ≤ 9) (hc : c ≤ 9) (md : Int32) (rec73 : Gp → Int32 → Int32 → Int32 → Int32 → Option (Int32 × Gp)) {t w : Nat} (ht : t < L) (hw : w < 2) (n : Nat) (hb : ∀ i, i < L → Tm 17 i = bI (b i)) (h : tM b a c L (t + 1) Tm) : lX11_slips_81 rec73 (n + 1) Tm (nI a) (nI c) md (nI t) (nI w) = lX11_slips_81 rec73 n (u2 Tm 18 (2 * t + w) (nI (eE (sT b a c L t w)))) (nI a) (nI c) md (nI t) (nI (w + 1)) := by
  have hh : ∀ w, w < 2 → Tm 18 (2 * (t + 1) + w) = nI (eE (sT b a c L (t + 1) w)) := fun w hw => h (t + 1) w (by omega) (by omega) hw
  have k1 := m_stays hL hc hb ht hw hh
  have k2 := m_stays hL hc hb ht (show 1 - w < 2 by omega) hh
  have l1 := kT_le b (a := a) hc hL t w
  have l2 := kT_le b (a := a) hc hL t (1 - w)
  have p1 := kT_mod b a c hL t w
  have p2 := kT_mod b a c hL t (1 - w)
  have b1 := eE_le (x := kT b a c L t w) (by omega)
  have b2 := eE_le (x := kT b a c L t (1 - w)) (by omega)
  rw [sX11_slips_81]
  unfold fX11_slips_81 fX11_slipped
  have hs : nI 1 - nI w = nI (1 - w) := e_sub (by omega)
  have q0 : (nI 2 ≤ nI w) = False := by rw [e_le (by omega) (by omega)]; exact eq_false (by omega)
  have q3 : (ix (nI (2 * t + w)) 82) = True := by rw [e_ix (by omega)]; exact eq_true (by omega)
  simp only [lit, e_add, e_mul, hs, q0, q3, if_true, if_false, bd1_s, k1, k2, e_eq (show t < 2 ^ 31 by omega) (show 0 < 2 ^ 31 by omega)]
  rw [cl_nI (show 2 * t + w < 2 ^ 31 by omega)]
  unfold sT
  by_cases h0 : t = 0
  · rw [if_pos h0, if_pos h0]
    simp only [bd1_s, e_le (show eE (kT b a c L t w) < 2 ^ 31 by omega) (show 268435456 < 2 ^ 31 by omega)]
    rw [if_pos (by omega)]
  · rw [if_neg h0, if_neg h0]
    have e1 : eE (kT b a c L t (1 - w)) + 100 * a + 1 = eE (64 * a + 1 + kT b a c L t (1 - w)) := by unfold eE; omega
    rw [e1]
    have b3 := eE_le (x := 64 * a + 1 + kT b a c L t (1 - w)) (by omega)
    simp only [bd1_s, e_le (show eE (kT b a c L t w) < 2 ^ 31 by omega) (show eE (64 * a + 1 + kT b a c L t (1 - w)) < 2 ^ 31 by omega)]
    unfold mS
    by_cases hm : kT b a c L t w ≤ 64 * a + 1 + kT b a c L t (1 - w)
    · rw [if_pos (by unfold eE; omega), Nat.min_eq_left hm]
    · rw [if_neg (by unfold eE; omega), Nat.min_eq_right (by omega)]
theorem m_slips73 {b : Nat → Bool} {L a c : Nat} (hL : L ≤ 40) (ha : a ≤ 9) (hc : c ≤ 9) (md : Int32) : ∀ (t n : Nat) (Tm : Gp), t ≤ L → t < n → (∀ i, i < L → Tm 17 i = bI (b i)) → tM b a c L t Tm → ∃ m Ta, lX11_slips_73 n Tm (nI a) (nI c) md (pN t) = lX11_slips_73 (m + 1) Ta (nI a) (nI c) md (pN 0) ∧ tM b a c L 0 Ta ∧ ∀ d, d ≠ 18 → Ta d = Tm d := by
  intro t
  induction t with
  | zero =>
    intro n Tm ht hn hb h
    obtain ⟨n, rfl, -⟩ := gt_s hn
    exact ⟨n, Tm, rfl, h, fun _ _ => rfl⟩
  | succ t ih =>
    intro n Tm ht hn hb h
    obtain ⟨n, rfl, hn⟩ := gt_s hn
    let T1 : Gp := u2 Tm 18 (2 * t + 0) (nI (eE (sT b a c L t 0)))
    let T2 : Gp := u2 T1 18 (2 * t + 1) (nI (eE (sT b a c L t 1)))
    have hf : ∃ m, fu = m + 1 + 1 + 1 := by
      obtain ⟨m, hm⟩ := fu_ex
      exact ⟨m + 99987, hm⟩
    obtain ⟨m, hm⟩ := hf
    have s1 := m_sstep hL ha hc md (lX11_slips_73 n) (show t < L by omega) (show 0 < 2 by omega) (m + 1 + 1) hb h
    have s2 := m_sstep (Tm := T1) hL ha hc md (lX11_slips_73 n) (show t < L by omega) (show 1 < 2 by omega) (m + 1) (fun i hi => by
      show u2 Tm 18 (2 * t + 0) _ 17 i = _
      rw [u2_c (by omega)]; exact hb i hi) (fun s w h1 h2 h3 => by
      show u2 Tm 18 (2 * t + 0) _ 18 (2 * s + w) = _
      rw [u2_i (by omega)]; exact h s w h1 h2 h3)
    have s3 : lX11_slips_81 (lX11_slips_73 n) (m + 1) T2 (nI a) (nI c) md (nI t) (nI 2) = lX11_slips_73 n T2 (nI a) (nI c) md (pN t) := by
      rw [sX11_slips_81]
      unfold fX11_slips_81
      simp only [m1_eq]
      simp only [lit, pN_d]
      exact if_pos (by rw [e_le (by omega) (by omega)]; omega)
    obtain ⟨j, Ta, e, g, f⟩ := ih n T2 (by omega) (by omega) (fun i hi => by
      show u2 (u2 Tm 18 (2 * t + 0) _) 18 (2 * t + 1) _ 17 i = _
      rw [u2_c (by omega), u2_c (by omega)]; exact hb i hi) (fun s w h1 h2 h3 => by
      show u2 (u2 Tm 18 (2 * t + 0) _) 18 (2 * t + 1) _ 18 (2 * s + w) = _
      rw [u2_ap, u2_ap]
      by_cases h4 : s = t
      · have hw2 : w = 0 ∨ w = 1 := by omega
        rcases hw2 with rfl | rfl
        · rw [if_neg (by omega), if_pos (by omega), h4]
        · rw [if_pos (by omega), h4]
      · rw [if_neg (by omega), if_neg (by omega)]
        exact h s w (by omega) h2 h3)
    refine ⟨j, Ta, ?_, g, fun d hd => ?_⟩
    · rw [sX11_slips_73]
      unfold fX11_slips_73
      have q0 : (nI t < nI 0) = False := by rw [e_lt (by omega) (by omega)]; exact eq_false (by omega)
      simp only [lit, pN_s, q0, if_false]
      rw [hm, s1, s2, s3, e]
    · rw [f d hd]
      show u2 (u2 Tm 18 (2 * t + 0) _) 18 (2 * t + 1) _ d = _
      rw [u2_c hd, u2_c hd]
end SLIPM
