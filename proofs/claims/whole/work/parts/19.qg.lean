def rg (x : Int32) (a b : Nat) : Bool := decide ((a : Int) ≤ x.toInt ∧ x.toInt ≤ (b : Int))
theorem w_rg (x : Int32) {a b : Nat} (ha : a < 2 ^ 31) (hb : b < 2 ^ 31) : fX10_within x (nI a) (nI b) = some (bI (rg x a b)) := by
  rw [within_eq, nI_toInt ha, nI_toInt hb]
  rfl
theorem n_rg (x : Int32) {a b : Nat} {c d : Int64} (ha : c.toInt = (a : Int)) (hb : d.toInt = (b : Int)) : fX11_in x.toInt64 c d = some (bI (rg x a b)) := by
  rw [in_eq, ha, hb]
  rfl
theorem rg_ex {x : Int32} {a b : Nat} (h : rg x a b = true) (hb : b < 2 ^ 30) : ∃ j, a ≤ j ∧ j ≤ b ∧ x = nI j := by
  have h1 := of_decide_eq_true h
  obtain ⟨j, hj, rfl⟩ := ok_ex (x := x) (n := b + 1) (decide_eq_true ⟨by omega, by omega⟩) (by omega)
  rw [nI_toInt (by omega)] at h1
  exact ⟨j, by omega, by omega, rfl⟩
section TEXT1
variable {Tt Td Tm Tx Te : Gp} {τ : TD}
theorem byte_ex (y : Int64) : ∃ b, b < 256 ∧ (y &&& 255).toInt32 = nI b := by
  have h1 : ((y &&& 255).toInt32).toBitVec.toNat < 256 := by
    rw [Int64.toBitVec_toInt32, BitVec.signExtend_eq_setWidth_of_le _ (by omega), BitVec.toNat_setWidth, Int64.toBitVec_and, BitVec.toNat_and]
    have := Nat.and_le_right (n := y.toBitVec.toNat) (m := (255 : Int64).toBitVec.toNat)
    have h2 : (255 : Int64).toBitVec.toNat = 255 := by decide
    omega
  have h3 : ((y &&& 255).toInt32).toInt = ((y &&& 255).toInt32).toBitVec.toNat := by
    show ((y &&& 255).toInt32).toBitVec.toInt = _
    exact BitVec.toInt_eq_toNat_of_lt (by omega)
  exact ok_ex (decide_eq_true ⟨by omega, by omega⟩) (by omega)
/-- the text -/
def XR (Tx Tm : Gp) : Prop := ∃ len, len ≤ 200 ∧ Tx 0 0 = nI len ∧ Tm 0 3 = nI len ∧ ∀ i, i < len → ∃ b, b < 256 ∧ Tx 1 i = nI b ∧ Tm 3 i = nI b
theorem XR_E {Tn : Gp} (h : XR Tx Tm) (f : EqO 4 Tm Tn) : XR Tx Tn := by
  obtain ⟨len, h0, h1, h2, h3⟩ := h
  refine ⟨len, h0, h1, by rw [f 0 3 rfl]; exact h2, fun i hi => ?_⟩
  rw [f 3 i rfl]
  exact h3 i hi
theorem r_erase (Te : Gp) (h : XR Tx Tm) : ∃ r Ta Tn, fX10_erase Te Tx = some (r, Ta) ∧ fX11_erase Tm = some (r, Tn) ∧ FO 4 Tm Tn ∧ XR Ta Tn := by
  obtain ⟨len, h0, h1, h2, h3⟩ := h
  unfold fX10_erase fX11_erase
  rw [h1, h2]
  exact ⟨_, _, _, rfl, rfl, FO_u (Or.inl rfl), 0, by omega, u2_same _ _ _ _, u2_same _ _ _ _, fun i hi => by omega⟩
theorem r_append (x1 : Int64) (m : Nat) (hm : m ≤ 8) : ∀ (k j n1 n2 : Nat) (Tx Tm : Gp) (len : Nat), j + k = m → k < n1 → k < n2 → len + k ≤ 200 → Tx 0 0 = nI len → Tm 0 3 = nI len → (∀ i, i < len → ∃ b, b < 256 ∧ Tx 1 i = nI b ∧ Tm 3 i = nI b) → ∃ Ta Tn, lX7_append_3 n1 Tx x1 (nI m) (nI j) = some Ta ∧ lX11_write_33 n2 Tm x1 (nI m) (nI j) = some (nI (len + k), Tn) ∧ FO 4 Tm Tn ∧ Ta 0 0 = nI (len + k) ∧ Tn 0 3 = nI (len + k) ∧ ∀ i, i < len + k → ∃ b, b < 256 ∧ Ta 1 i = nI b ∧ Tn 3 i = nI b := by
  intro k
  induction k with
  | zero =>
    intro j n1 n2 Tx Tm len hk hn1 hn2 hl h1 h2 h3
    obtain ⟨n1, rfl, -⟩ := gt_s hn1
    obtain ⟨n2, rfl, -⟩ := gt_s hn2
    rw [sX7_append_3, sX11_write_33]
    unfold fX7_append_3 fX11_write_33
    rw [if_pos (by rw [e_le (by omega) (by omega)]; omega), if_pos (by rw [e_le (by omega) (by omega)]; omega)]
    exact ⟨_, _, rfl, by rw [h2]; rfl, FO_r _ _, h1, h2, h3⟩
  | succ k ih =>
    intro j n1 n2 Tx Tm len hk hn1 hn2 hl h1 h2 h3
    obtain ⟨n1, rfl, hn1⟩ := gt_s hn1
    obtain ⟨n2, rfl, hn2⟩ := gt_s hn2
    rw [sX7_append_3, sX11_write_33]
    unfold fX7_append_3 fX11_write_33
    have q1 : (nI m ≤ nI j) = False := by rw [e_le (by omega) (by omega)]; exact eq_false (by omega)
    have q2 : (nI 200 ≤ nI len) = False := by rw [e_le (by omega) (by omega)]; exact eq_false (by omega)
    have q3 : (ix (nI len) 200) = True := by rw [e_ix (by omega)]; exact eq_true (by omega)
    have w1 : fX10_within (nI len) (nI 0) (nI 199) = some (bI true) := by
      rw [show (199 : Nat) = 200 - 1 from rfl, within_ok (by omega) (by omega), ok_nI (by omega) (by omega)]
    simp only [lit, h1, h2, q1, q2, q3, w1, bd1_s, bI_0, Bool.true_eq_false, if_true, if_false, e_add]
    rw [cl_nI (show len < 2 ^ 31 by omega)]
    obtain ⟨b, hb, e⟩ := byte_ex (x1 >>> ((nI 8 * nI j).toInt64 &&& 63))
    rw [e]
    obtain ⟨Ta, Tn, e1, e2, f, g1, g2, g3⟩ := ih (j + 1) n1 n2 (u2 (u2 Tx 1 len (nI b)) 0 0 (nI (len + 1))) (u2 (u2 Tm 3 len (nI b)) 0 3 (nI (len + 1))) (len + 1) (by omega) (by omega) (by omega) (by omega) (u2_same _ _ _ _) (u2_same _ _ _ _) (fun i hi => by
      have a1 : u2 (u2 Tx 1 len (nI b)) 0 0 (nI (len + 1)) 1 i = if i = len then nI b else Tx 1 i := by
        rw [u2_ap, if_neg (by omega), u2_ap]
        simp
      have a2 : u2 (u2 Tm 3 len (nI b)) 0 3 (nI (len + 1)) 3 i = if i = len then nI b else Tm 3 i := by
        rw [u2_ap, if_neg (by omega), u2_ap]
        simp
      rw [a1, a2]
      by_cases h : i = len
      · rw [if_pos h, if_pos h]
        exact ⟨b, hb, rfl, rfl⟩
      · rw [if_neg h, if_neg h]
        exact h3 i (by omega))
    rw [show len + 1 + k = len + (k + 1) by omega] at e2 g1 g2 g3
    exact ⟨Ta, Tn, e1, e2, FO_t (FO_t (FO_u (Or.inl rfl)) (FO_u (Or.inl rfl))) f, g1, g2, g3⟩
theorem r_write (Te : Gp) (h : XR Tx Tm) (x1 : Int64) (x3 : Int32) : ∃ r Ta Tn, fX10_write Te Tx x1 x3 = some (r, Ta) ∧ fX11_write Tm x1 x3 = some (r, Tn) ∧ FO 4 Tm Tn ∧ XR Ta Tn := by
  have hself := h
  obtain ⟨len, h0, h1, h2, h3⟩ := h
  unfold fX10_write fX11_write fX7_append
  rw [h1, h2]
  simp only [lit]
  rw [w_rg x3 (by omega) (by omega), n_rg x3 (a := 1) (b := 8) (by decide) (by decide)]
  simp only [bd1_s, bI_0]
  cases hx : rg x3 1 8
  · exact ⟨_, Tx, Tm, by simp; rfl, by simp, FO_r _ _, hself⟩
  · obtain ⟨m, hm0, hm, rfl⟩ := rg_ex hx (by omega)
    have hsub : nI 200 - nI len = nI (200 - len) := e_sub (by omega)
    simp only [hsub, e_add, Bool.true_eq_false, if_false, e_le (show m < 2 ^ 31 by omega) (show 200 - len < 2 ^ 31 by omega), e_le (show len + m < 2 ^ 31 by omega) (show 200 < 2 ^ 31 by omega)]
    by_cases hl : len + m ≤ 200
    · rw [if_pos (by omega), if_pos hl]
      obtain ⟨Ta, Tn, e1, e2, f, g1, g2, g3⟩ := r_append x1 m (by omega) m 0 fu fu Tx Tm len (by omega) (fu_gt (by omega)) (fu_gt (by omega)) hl h1 h2 h3
      rw [e1]
      exact ⟨_, Ta, Tn, by rw [bd1_s, g1], e2, f, len + m, hl, g1, g2, g3⟩
    · rw [if_neg (by omega), if_neg hl]
      exact ⟨_, Tx, Tm, rfl, rfl, FO_r _ _, hself⟩
end TEXT1
