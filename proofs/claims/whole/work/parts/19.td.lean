section FOURS
variable {Tg Tm : Gp}
def lk (Tg : Gp) (v i j : Nat) : Nat := (Tg 1 ((v * 6 + min i j) * 6 + max i j)).toNatClampNeg
def w4 (Tg : Gp) (i j : Nat) : Nat := if i = j then 0 else 4 * min (lk Tg 0 i j) (lk Tg 1 i j) + 1
theorem lk_c (Tg : Gp) (v i j : Nat) : lk Tg v i j = lk Tg v j i := by unfold lk; rw [Nat.min_comm, Nat.max_comm]
theorem w4_c (Tg : Gp) (i j : Nat) : w4 Tg i j = w4 Tg j i := by
  unfold w4
  rw [lk_c Tg 0 i j, lk_c Tg 1 i j]
  by_cases h : i = j
  · rw [if_pos h, if_pos h.symm]
  · rw [if_neg h, if_neg (fun e => h e.symm)]
theorem lk_e (h : LR Tg Tm) {v i j : Nat} (hv : v < 2) (hi : i < 6) (hj : j < 6) (hij : i ≠ j) : Tg 1 ((v * 6 + min i j) * 6 + max i j) = nI (lk Tg v i j) ∧ Tm 15 (36 * v + 6 * i + j) = nI (lk Tg v i j) ∧ lk Tg v i j ≤ 99 := by
  obtain ⟨w, hw, e1, e2⟩ := h v i j hv hi hj hij
  have : lk Tg v i j = w := by unfold lk; rw [e1, cl_nI (by omega)]
  rw [this]
  exact ⟨e1, e2, hw⟩
theorem c_value (h : LR Tg Tm) {i j : Nat} (hi : i < 6) (hj : j < 6) (hij : i ≠ j) : fX2_valueOf Tg (nI i) (nI j) = some (nI (w4 Tg i j)) := by
  have k0 := lk_e h (show 0 < 2 by omega) hi hj hij
  have k1 := lk_e h (show 1 < 2 by omega) hi hj hij
  have b0 : (0 * 6 + min i j) * 6 + max i j < 72 := by omega
  have b1 : (1 * 6 + min i j) * 6 + max i j < 72 := by omega
  unfold fX2_valueOf fX2_indexOf fX2_valueOf_51
  simp only [lit, bd1_s, e_imn (show i < 2 ^ 31 by omega) (show j < 2 ^ 31 by omega), e_imx (show i < 2 ^ 31 by omega) (show j < 2 ^ 31 by omega), e_mul, e_add]
  have w : ∀ x, x < 72 → fX10_within (nI x) (nI 0) (nI 72 - nI 1) = some (bI true) := by
    intro x hx
    rw [show nI 72 - nI 1 = nI (72 - 1) from rfl, within_ok (by omega) (by omega), ok_nI hx (by omega)]
  have q0 : (ix (nI ((0 * 6 + min i j) * 6 + max i j)) 72) = True := by rw [e_ix (by omega)]; exact eq_true b0
  have q1 : (ix (nI ((1 * 6 + min i j) * 6 + max i j)) 72) = True := by rw [e_ix (by omega)]; exact eq_true b1
  have z0 := cl_nI (show (0 * 6 + min i j) * 6 + max i j < 2 ^ 31 by omega)
  have z1 := cl_nI (show (1 * 6 + min i j) * 6 + max i j < 2 ^ 31 by omega)
  have h10 : (nI 1 = nI 0) = False := by rw [e_eq (by omega) (by omega)]; exact eq_false (by omega)
  simp only [w _ b0, w _ b1, bd1_s, bI_0, Bool.true_eq_false, if_false, q0, q1, z0, z1, k0.1, k1.1, h10, if_true]
  rw [e_imn (by omega) (by omega), e_mul, e_add]
  unfold w4
  rw [if_neg hij, Nat.mul_comm]
end FOURS
