section KEEP
variable {Tt Td Tm To : Gp} {τ : TD}
theorem c_copy81 (To : Gp) : ∀ (k i n : Nat) (Td : Gp), i + k = 48 → k < n → ∃ Ta, lX0_becomeLike_81 To n Td (nI i) = some Ta ∧ (∀ c, c ≠ 4 → Ta c = Td c) ∧ (∀ j, j < i → Ta 4 j = Td 4 j) ∧ ∀ j, i ≤ j → j < 48 → Ta 4 j = To 4 j := by
  intro k
  induction k with
  | zero =>
    intro i n Td hk hn
    obtain ⟨m, rfl, -⟩ := gt_s hn
    refine ⟨Td, ?_, fun _ _ => rfl, fun _ _ => rfl, fun j a b => by omega⟩
    rw [sX0_becomeLike_81]
    unfold fX0_becomeLike_81
    simp only [lit]
    exact if_pos (by rw [e_le (by omega) (by omega)]; omega)
  | succ k ih =>
    intro i n Td hk hn
    obtain ⟨m, rfl, hm⟩ := gt_s hn
    obtain ⟨Ta, e, f, a, b⟩ := ih (i + 1) m (u2 Td 4 i (To 4 i)) (by omega) (by omega)
    refine ⟨Ta, ?_, fun c hc => ?_, fun j hj => ?_, fun j h1 h2 => ?_⟩
    · rw [sX0_becomeLike_81]
      unfold fX0_becomeLike_81
      have q1 : (nI 48 ≤ nI i) = False := by rw [e_le (by omega) (by omega)]; exact eq_false (by omega)
      have q2 : (ix (nI i) 48) = True := by rw [e_ix (by omega)]; exact eq_true (by omega)
      simp only [lit, q1, q2, if_true, if_false, e_add]
      rw [cl_nI (show i < 2 ^ 31 by omega)]
      exact e
    · rw [f c hc, u2_c hc]
    · rw [a j (by omega), u2_ap, if_neg (by omega)]
    · by_cases h : j = i
      · rw [a j (by omega), u2_ap, if_pos ⟨rfl, h⟩, h]
      · exact b j (by omega) h2
theorem c_copy43 (To : Gp) : ∀ (k i n : Nat) (Td : Gp), i + k = 12 → k < n → ∃ Ta, lX0_becomeLike_43 To n Td (nI i) = lX0_becomeLike_81 To fu Ta (nI 0) ∧ (∀ c, c ≠ 2 → c ≠ 3 → Ta c = Td c) ∧ (∀ j, j < i → Ta 2 j = Td 2 j ∧ Ta 3 j = Td 3 j) ∧ ∀ j, i ≤ j → j < 12 → Ta 2 j = To 2 j ∧ Ta 3 j = To 3 j := by
  intro k
  induction k with
  | zero =>
    intro i n Td hk hn
    obtain ⟨m, rfl, -⟩ := gt_s hn
    refine ⟨Td, ?_, fun _ _ _ => rfl, fun _ _ => ⟨rfl, rfl⟩, fun j a b => by omega⟩
    rw [sX0_becomeLike_43]
    unfold fX0_becomeLike_43
    simp only [lit]
    exact if_pos (by rw [e_le (by omega) (by omega)]; omega)
  | succ k ih =>
    intro i n Td hk hn
    obtain ⟨m, rfl, hm⟩ := gt_s hn
    obtain ⟨Ta, e, f, a, b⟩ := ih (i + 1) m (u2 (u2 Td 2 i (To 2 i)) 3 i (To 3 i)) (by omega) (by omega)
    refine ⟨Ta, ?_, fun c hc hd => ?_, fun j hj => ?_, fun j h1 h2 => ?_⟩
    · rw [sX0_becomeLike_43]
      unfold fX0_becomeLike_43
      have q1 : (nI 12 ≤ nI i) = False := by rw [e_le (by omega) (by omega)]; exact eq_false (by omega)
      have q2 : (ix (nI i) 12) = True := by rw [e_ix (by omega)]; exact eq_true (by omega)
      simp only [lit, q1, q2, if_true, if_false, e_add]
      rw [cl_nI (show i < 2 ^ 31 by omega)]
      exact e
    · rw [f c hc hd, u2_c hd, u2_c hc]
    · rw [(a j (by omega)).1, (a j (by omega)).2, u2_ap, u2_ap, u2_ap, u2_ap, if_neg (by omega), if_neg (by omega), if_neg (by omega), if_neg (by omega)]
      exact ⟨rfl, rfl⟩
    · by_cases h : j = i
      · rw [(a j (by omega)).1, (a j (by omega)).2, u2_ap, u2_ap, u2_ap, if_neg (by omega), if_pos ⟨rfl, h⟩, if_pos ⟨rfl, h⟩, h]
        exact ⟨rfl, rfl⟩
      · exact b j (by omega) h2
theorem c_becomeLike {δ : DA} {ν : VV} (h : C0 To δ) (g : C1 To ν) (Td : Gp) : ∃ Ta, fX0_becomeLike Td To = some Ta ∧ C0 Ta δ ∧ C1 Ta ν := by
  have hn : ∃ n, fu = n + 1 + 1 + 1 := by
    obtain ⟨n, hn⟩ := fu_ex
    exact ⟨n + 99987, hn⟩
  obtain ⟨n, hn⟩ := hn
  let T0 : Gp := u2 (u2 (u2 (u2 Td 0 0 (To 0 0)) 0 1 (To 0 1)) 1 0 (To 1 0)) 1 1 (To 1 1)
  have e0 : fX0_becomeLike Td To = lX0_becomeLike_43 To fu T0 (nI 0) := by
    unfold fX0_becomeLike
    rw [hn, sX0_becomeLike_18]
    unfold fX0_becomeLike_18
    rw [sX0_becomeLike_18]
    unfold fX0_becomeLike_18
    rw [sX0_becomeLike_18]
    unfold fX0_becomeLike_18
    simp only [lit, e_add]
    simp (disch := omega) only [e_le, e_ix, cl_nI]
    simp only [Nat.reduceAdd, Nat.reduceLeDiff, Nat.reduceLT, if_true, if_false]
    rw [← hn]
  obtain ⟨T1, e1, f1, a1, b1⟩ := c_copy43 To 12 0 fu T0 (by omega) (fu_gt (by omega))
  obtain ⟨T2, e2, f2, a2, b2⟩ := c_copy81 To 48 0 fu T1 (by omega) (fu_gt (by omega))
  have w0 : T2 0 = T0 0 := by rw [f2 0 (by omega), f1 0 (by omega) (by omega)]
  have w1 : T2 1 = T0 1 := by rw [f2 1 (by omega), f1 1 (by omega) (by omega)]
  have w00 : T0 0 0 = To 0 0 := by
    show u2 (u2 (u2 (u2 Td 0 0 (To 0 0)) 0 1 (To 0 1)) 1 0 (To 1 0)) 1 1 (To 1 1) 0 0 = _
    rw [u2_ap, if_neg (by omega), u2_ap, if_neg (by omega), u2_ap, if_neg (by omega), u2_same]
  have w01 : T0 0 1 = To 0 1 := by
    show u2 (u2 (u2 (u2 Td 0 0 (To 0 0)) 0 1 (To 0 1)) 1 0 (To 1 0)) 1 1 (To 1 1) 0 1 = _
    rw [u2_ap, if_neg (by omega), u2_ap, if_neg (by omega), u2_same]
  have w10 : T0 1 0 = To 1 0 := by
    show u2 (u2 (u2 (u2 Td 0 0 (To 0 0)) 0 1 (To 0 1)) 1 0 (To 1 0)) 1 1 (To 1 1) 1 0 = _
    rw [u2_ap, if_neg (by omega), u2_same]
  have w11 : T0 1 1 = To 1 1 := by
    show u2 (u2 (u2 (u2 Td 0 0 (To 0 0)) 0 1 (To 0 1)) 1 0 (To 1 0)) 1 1 (To 1 1) 1 1 = _
    rw [u2_same]
  refine ⟨T2, e0.trans (e1.trans e2), ⟨h.1, ?_, fun i hi => ?_, fun i hi => ?_⟩, fun v hv => ?_, fun i hi => ?_, fun i hi => ?_⟩
  · rw [w0, w00]; exact h.2.1
  · rw [w0, w01]; exact h.2.2.1 i hi
  · rw [b2 i (by omega) hi]; exact h.2.2.2 i hi
  · have hv2 : v = 0 ∨ v = 1 := by omega
    rw [w1]
    rcases hv2 with rfl | rfl
    · rw [w10]; exact g.1 0 hv
    · rw [w11]; exact g.1 1 hv
  · rw [f2 2 (by omega), (b1 i (by omega) hi).1]; exact g.2.1 i hi
  · rw [f2 3 (by omega), (b1 i (by omega) hi).2]; exact g.2.2 i hi
/-- the reference's copy -/
theorem m_copy (a b : Nat) (ha : a < 3) (hb : b < 3) (hab : a ≠ b) : ∀ (k i n : Nat) (Tm : Gp), i + k = 87 → k < n → ∃ Ta, lX11_copy_2 n Tm (nI a) (nI b) (nI i) = some Ta ∧ (∀ c j, (c ≠ 1 ∨ j < 87 * b + i ∨ 87 * b + 87 ≤ j) → Ta c j = Tm c j) ∧ ∀ j, i ≤ j → j < 87 → Ta 1 (87 * b + j) = Tm 1 (87 * a + j) := by
  intro k
  induction k with
  | zero =>
    intro i n Tm hk hn
    obtain ⟨m, rfl, -⟩ := gt_s hn
    refine ⟨Tm, ?_, fun _ _ _ => rfl, fun j a b => by omega⟩
    rw [sX11_copy_2]
    unfold fX11_copy_2
    simp only [lit]
    exact if_pos (by rw [e_le (by omega) (by omega)]; omega)
  | succ k ih =>
    intro i n Tm hk hn
    obtain ⟨m, rfl, hm⟩ := gt_s hn
    obtain ⟨Ta, e, f, g⟩ := ih (i + 1) m (u2 Tm 1 (87 * b + i) (Tm 1 (87 * a + i))) (by omega) (by omega)
    refine ⟨Ta, ?_, fun c j hj => ?_, fun j h1 h2 => ?_⟩
    · rw [sX11_copy_2]
      unfold fX11_copy_2
      simp only [lit, e_add, e_mul]
      have q1 : (nI 87 ≤ nI i) = False := by rw [e_le (by omega) (by omega)]; exact eq_false (by omega)
      have q2 : (ix (nI (87 * a + i)) 261) = True := by rw [e_ix (by omega)]; exact eq_true (by omega)
      have q3 : (ix (nI (87 * b + i)) 261) = True := by rw [e_ix (by omega)]; exact eq_true (by omega)
      simp only [q1, q2, q3, if_true, if_false]
      rw [cl_nI (show 87 * a + i < 2 ^ 31 by omega), cl_nI (show 87 * b + i < 2 ^ 31 by omega)]
      exact e
    · rw [f c j (by omega), u2_ap, if_neg (by omega)]
    · by_cases h : j = i
      · rw [h, f 1 (87 * b + i) (by omega), u2_same]
      · rw [g j (by omega) h2, u2_ap, if_neg (by omega)]
end KEEP
