section PLC
variable {Tt : Gp} {τ : TD} {o : Nat}
theorem w_tab {x : Nat} (h : x < 10050) : fX10_within (nI x) (nI 0) (nI 10050 - nI 1) = some (bI true) := by
  rw [show nI 10050 - nI 1 = nI (10050 - 1) from e_sub (by omega), within_ok (by omega) (by omega), ok_nI h (by omega)]
theorem c_bestFrom (Tp : Gp) {base r : Nat} {x : Int32} (hx : imx x (nI 0) = nI r) (h : base + r < 10050) : fX5_bestFrom Tp (nI base) x = some (Tp 1 (base + r)) := by
  unfold fX5_bestFrom
  have q : (ix (nI (base + r)) 10050) = True := by rw [e_ix (by omega)]; exact eq_true h
  simp only [lit, hx, e_add, w_tab h, bd1_s, bI_0, Bool.true_eq_false, if_false, q, if_true]
  rw [cl_nI (by omega)]
theorem c_clear {base : Nat} (hb : base + 201 ≤ 10050) : ∀ k j n Tp, j + k = 201 → k < n → ∃ Ta, lX5_clearRow_2 n Tp (nI base) (nI j) = some Ta ∧ (∀ r, j ≤ r → r < 201 → Ta 1 (base + r) = -nI 1) ∧ ∀ c i, ¬ (c = 1 ∧ base + j ≤ i ∧ i < base + 201) → Ta c i = Tp c i := by
  intro k
  induction k with
  | zero =>
    intro j n Tp hk hn
    obtain ⟨n, rfl, -⟩ := gt_s hn
    rw [sX5_clearRow_2]
    unfold fX5_clearRow_2
    have q0 : (nI 201 ≤ nI j) = True := by rw [e_le (by omega) (by omega)]; exact eq_true (by omega)
    simp only [lit, q0, if_true]
    exact ⟨Tp, rfl, fun r h1 h2 => by omega, fun c i _ => rfl⟩
  | succ k ih =>
    intro j n Tp hk hn
    obtain ⟨n, rfl, hn⟩ := gt_s hn
    rw [sX5_clearRow_2]
    unfold fX5_clearRow_2
    have q0 : (nI 201 ≤ nI j) = False := by rw [e_le (by omega) (by omega)]; exact eq_false (by omega)
    have q : (ix (nI (base + j)) 10050) = True := by rw [e_ix (by omega)]; exact eq_true (by omega)
    have z := cl_nI (show base + j < 2 ^ 31 by omega)
    simp only [m1_eq]
    simp only [lit, q0, if_false, e_add, w_tab (show base + j < 10050 by omega), bd1_s, bI_0, Bool.true_eq_false, q, if_true, z]
    obtain ⟨Ta, e, f, g⟩ := ih (j + 1) n (u2 Tp 1 (base + j) (-nI 1)) (by omega) (by omega)
    refine ⟨Ta, e, fun r h1 h2 => ?_, fun c i h => ?_⟩
    · by_cases c : r = j
      · rw [g 1 (base + r) (by omega), c, u2_same]
      · exact f r (by omega) h2
    · rw [g c i (by omega), u2_ap, if_neg (by omega)]
theorem c_offer (Tp : Gp) {base r w x : Nat} (h : base + r < 10050) (hw : w < 2 ^ 20) (hx : x < 2 ^ 20) (e : Tp 1 (base + r) = pI x) : ∃ Ta, fX5_offer Tp (nI base) (nI r) (nI w) = some Ta ∧ Ta 1 (base + r) = pI (max x (w + 1)) ∧ ∀ c i, ¬ (c = 1 ∧ i = base + r) → Ta c i = Tp c i := by
  unfold fX5_offer
  have q : (ix (nI (base + r)) 10050) = True := by rw [e_ix (by omega)]; exact eq_true h
  have z := cl_nI (show base + r < 2 ^ 31 by omega)
  have cm : (nI w ≤ pI x) = (w + 1 ≤ x) := by rw [← pI_s, pI_le (by omega) (by omega)]
  simp only [lit, e_add, w_tab h, bd1_s, bI_0, Bool.true_eq_false, if_false, q, if_true, z, e, cm]
  by_cases c : w + 1 ≤ x
  · rw [if_pos c]
    exact ⟨Tp, rfl, by rw [e, Nat.max_eq_left c], fun c i _ => rfl⟩
  · rw [if_neg c]
    refine ⟨_, rfl, ?_, fun c i h => ?_⟩
    · rw [u2_same, Nat.max_eq_right (by omega), pI_s]
    · rw [u2_ap, if_neg h]
theorem c_offerAll {base m w : Nat} {B : Nat → Nat} (hb : base + 402 ≤ 10050) (hm : m ≤ 40) (hw : w ≤ 40) (hB : ∀ r r', r ≤ r' → B r' ≤ B r) (hBb : ∀ r, B r < 2 ^ 18) : ∀ k r n (Tp : Gp) (R : Nat → Nat), r + k = 201 → k < n → (∀ i, R i < 2 ^ 18 + 2 ^ 10) → (∀ i, i < 201 → Tp 1 (base + 201 + i) = pI (B i)) → (∀ i, i < 201 → Tp 1 (base + i) = pI (R i)) → ∃ Ta, lX5_offerAll_3 n Tp (nI base) (nI m) (nI w) (nI r) = some Ta ∧ (∀ i, i < 201 → Ta 1 (base + i) = pI (if r ≤ i then max (R i) (up (B (i - m)) w) else R i)) ∧ ∀ c i, ¬ (c = 1 ∧ base ≤ i ∧ i < base + 201) → Ta c i = Tp c i := by
  intro k
  induction k with
  | zero =>
    intro r n Tp R hk hn hR t1 t0
    obtain ⟨n, rfl, -⟩ := gt_s hn
    rw [sX5_offerAll_3]
    unfold fX5_offerAll_3
    have q0 : (nI 201 ≤ nI r) = True := by rw [e_le (by omega) (by omega)]; exact eq_true (by omega)
    simp only [lit, q0, if_true]
    refine ⟨Tp, rfl, fun i hi => ?_, fun c i _ => rfl⟩
    rw [if_neg (by omega)]
    exact t0 i hi
  | succ k ih =>
    intro r n Tp R hk hn hR t1 t0
    obtain ⟨n, rfl, hn⟩ := gt_s hn
    rw [sX5_offerAll_3]
    unfold fX5_offerAll_3
    have q0 : (nI 201 ≤ nI r) = False := by rw [e_le (by omega) (by omega)]; exact eq_false (by omega)
    have bf := c_bestFrom Tp (base := base + 201) (e_sbm (show r < 2 ^ 30 by omega) (show m < 2 ^ 30 by omega)) (by omega)
    have b1 := hBb (r - m)
    simp only [m1_eq]
    simp only [lit, q0, if_false, e_add, bf, bd1_s, t1 _ (show r - m < 201 by omega), pI_m1 (show B (r - m) < 2 ^ 30 by omega)]
    by_cases c : B (r - m) = 0
    · simp only [eq_true c, if_true]
      refine ⟨Tp, rfl, fun i hi => ?_, fun c i _ => rfl⟩
      by_cases d : r ≤ i
      · have := hB (r - m) (i - m) (by omega)
        rw [if_pos d]
        unfold up
        rw [if_pos (by omega), Nat.max_eq_left (Nat.zero_le _)]
        exact t0 i hi
      · rw [if_neg d]; exact t0 i hi
    · simp only [eq_false c, if_false]
      rw [pI_pos (by omega), e_add]
      obtain ⟨Ta, e1, e2, e3⟩ := c_offer Tp (base := base) (r := r) (w := B (r - m) - 1 + w) (x := R r) (by omega) (by omega) (by have := hR r; omega) (t0 r (by omega))
      rw [e1]
      simp only [bd1_s]
      have eu : B (r - m) - 1 + w + 1 = up (B (r - m)) w := by unfold up; rw [if_neg c]; omega
      rw [eu] at e2
      have ub : up (B (r - m)) w < 2 ^ 18 + 2 ^ 10 := by unfold up; split <;> omega
      obtain ⟨Tb, f1, f2, f3⟩ := ih (r + 1) n Ta (fun i => if i = r then max (R r) (up (B (r - m)) w) else R i) (by omega) (by omega) (fun i => by
        have := hR i
        have := hR r
        split <;> omega) (fun i hi => by rw [e3 1 _ (by omega)]; exact t1 i hi) (fun i hi => by
        by_cases d : i = r
        · rw [if_pos d, d]; exact e2
        · rw [if_neg d, e3 1 _ (by omega)]; exact t0 i hi)
      refine ⟨Tb, f1, fun i hi => ?_, fun c i h => ?_⟩
      · rw [f2 i hi]
        by_cases d : i = r
        · rw [if_neg (by omega), if_pos d, if_pos (by omega), d]
        · rw [if_neg d]
          by_cases d2 : r ≤ i
          · rw [if_pos (by omega), if_pos d2]
          · rw [if_neg (by omega), if_neg d2]
      · rw [f3 c i h, e3 c i (by omega)]
theorem xz_s (c : Nat) : nI 40 - nI c + -nI 1 = nI 40 - nI (c + 1) := by
  rw [← e_add, Int32.sub_eq_add_neg, Int32.sub_eq_add_neg, Int32.neg_add, Int32.add_assoc, Int32.sub_eq_add_neg]
theorem RM_b {W B : Nat → Nat} (hW : ∀ m, W m ≤ 41) (hBb : ∀ r, B r < 2 ^ 18) : ∀ c r, RM W B c r < 2 ^ 18 + 2 ^ 10 := by
  intro c
  induction c with
  | zero => intro r; show 0 < _; omega
  | succ c ih =>
    intro r
    show max _ _ < _
    have a := ih r
    have b : Qf W B (40 - c) r < 2 ^ 18 + 2 ^ 10 := by
      unfold Qf up
      have := hW (40 - c)
      have := hBb (r - (40 - c))
      split
      · omega
      · split <;> omega
    omega
theorem WM_b {W : Nat → Nat} (hW : ∀ m, W m ≤ 41) : ∀ c, WM W c ≤ 41 := by
  intro c
  induction c with
  | zero => exact Nat.zero_le _
  | succ c ih =>
    show max _ _ ≤ _
    have := hW (40 - c)
    omega
theorem c_row10 {base : Nat} {W B : Nat → Nat} (hb : base + 402 ≤ 10050) (hW : ∀ m, W m ≤ 41) (hB : ∀ r r', r ≤ r' → B r' ≤ B r) (hBb : ∀ r, B r < 2 ^ 18) : ∀ k c n Tp, c + k = 41 → k < n → (∀ m, m < 41 → Tp 2 m = pI (W m)) → (∀ i, i < 201 → Tp 1 (base + 201 + i) = pI (B i)) → (∀ i, i < 201 → Tp 1 (base + i) = pI (RM W B c i)) → ∃ Ta, lX5_reckonRow_10 n Tp (nI base) (pI (WM W c)) (nI 40 - nI c) = some Ta ∧ (∀ i, i < 201 → Ta 1 (base + i) = pI (RM W B 41 i)) ∧ ∀ c i, ¬ (c = 1 ∧ base ≤ i ∧ i < base + 201) → Ta c i = Tp c i := by
  intro k
  induction k with
  | zero =>
    intro c n Tp hk hn w2 t1 t0
    obtain ⟨n, rfl, -⟩ := gt_s hn
    have hc : c = 41 := by omega
    subst hc
    rw [sX5_reckonRow_10]
    unfold fX5_reckonRow_10
    have q0 : nI 40 - nI 41 < 0 := by decide
    rw [if_pos q0]
    exact ⟨Tp, rfl, t0, fun c i _ => rfl⟩
  | succ k ih =>
    intro c n Tp hk hn w2 t1 t0
    obtain ⟨n, rfl, hn⟩ := gt_s hn
    rw [sX5_reckonRow_10]
    unfold fX5_reckonRow_10
    have e0 : nI 40 - nI c = nI (40 - c) := e_sub (by omega)
    have q0 : (nI (40 - c) < nI 0) = False := by rw [e_lt (by omega) (by omega)]; exact eq_false (by omega)
    have q : (ix (nI (40 - c)) 41) = True := by rw [e_ix (by omega)]; exact eq_true (by omega)
    have z := cl_nI (show 40 - c < 2 ^ 31 by omega)
    have wb := WM_b hW c
    have wc := hW (40 - c)
    have nx : nI (40 - c) + -nI 1 = nI 40 - nI (c + 1) := by rw [← e0]; exact xz_s c
    simp only [m1_eq]
    rw [e0]
    simp only [lit, q0, if_false, q, if_true, z, w2 _ (show 40 - c < 41 by omega), pI_lt (show WM W c < 2 ^ 30 by omega) (show W (40 - c) < 2 ^ 30 by omega)]
    rw [nx]
    by_cases d : WM W c < W (40 - c)
    · simp only [eq_true d, if_true]
      unfold fX5_offerAll
      rw [pI_pos (show 0 < W (40 - c) by omega)]
      obtain ⟨Ta, e1, e2, e3⟩ := c_offerAll (base := base) (m := 40 - c) (w := W (40 - c) - 1) hb (by omega) (by omega) hB hBb 201 0 fu Tp (RM W B c) (by omega) (fu_gt (by omega)) (RM_b hW hBb c) t1 t0
      simp only [lit, e1, bd1_s]
      rw [← pI_pos (show 0 < W (40 - c) by omega)]
      have em : WM W (c + 1) = W (40 - c) := by show max _ _ = _; omega
      rw [← em]
      obtain ⟨Tb, f1, f2, f3⟩ := ih (c + 1) n Ta (by omega) (by omega) (fun m hm => by rw [e3 2 m (by omega)]; exact w2 m hm) (fun i hi => by rw [e3 1 _ (by omega)]; exact t1 i hi) (fun i hi => by
        rw [e2 i hi, if_pos (Nat.zero_le _)]
        congr 1
        show _ = max _ _
        congr 1
        unfold Qf
        rw [if_neg (by omega)])
      exact ⟨Tb, f1, f2, fun c i h => by rw [f3 c i h, e3 c i h]⟩
    · simp only [eq_false d, if_false]
      have em : WM W (c + 1) = WM W c := by show max _ _ = _; omega
      rw [← em]
      exact ih (c + 1) n Tp (by omega) (by omega) w2 t1 (fun i hi => by rw [RM_skip hB (by omega) (by omega)]; exact t0 i hi)
theorem c_row (Tp : Gp) {base : Nat} {W B : Nat → Nat} (hb : base + 402 ≤ 10050) (hW : ∀ m, W m ≤ 41) (hB : ∀ r r', r ≤ r' → B r' ≤ B r) (hBb : ∀ r, B r < 2 ^ 18) (w2 : ∀ m, m < 41 → Tp 2 m = pI (W m)) (t1 : ∀ i, i < 201 → Tp 1 (base + 201 + i) = pI (B i)) : ∃ Ta, fX5_reckonRow Tp (nI base) = some Ta ∧ (∀ i, i < 201 → Ta 1 (base + i) = pI (RM W B 41 i)) ∧ ∀ c i, ¬ (c = 1 ∧ base ≤ i ∧ i < base + 201) → Ta c i = Tp c i := by
  obtain ⟨Ta, e1, e2, e3⟩ := c_clear (base := base) (by omega) 201 0 fu Tp (by omega) (fu_gt (by omega))
  obtain ⟨Tb, f1, f2, f3⟩ := c_row10 hb hW hB hBb 41 0 fu Ta (by omega) (fu_gt (by omega)) (fun m hm => by rw [e3 2 m (by omega)]; exact w2 m hm) (fun i hi => by rw [e3 1 _ (by omega)]; exact t1 i hi) (fun i hi => by rw [e2 i (by omega) hi]; rfl)
  refine ⟨Tb, ?_, f2, fun c i h => by rw [f3 c i h, e3 c i (by omega)]⟩
  unfold fX5_reckonRow fX5_clearRow
  simp only [m1_eq]
  simp only [lit, e1, bd1_s]
  exact f1
end PLC
