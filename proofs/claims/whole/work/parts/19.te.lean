def fo (g : Nat → Nat) : Nat → Nat → Nat → Nat
  | 0, _, a => a
  | k + 1, j, a => fo g k (j + 1) (max a (g j))
theorem hb_hi {S N j : Nat} (h : S < 2 ^ N) (hj : N ≤ j) : hb S j = false := by
  unfold hb
  have : S / 2 ^ j = 0 := Nat.div_eq_of_lt (Nat.lt_of_lt_of_le h (Nat.pow_le_pow_right (by omega) hj))
  rw [this]
  rfl
theorem fo_mx6 {g : Nat → Nat} {N : Nat} (hN : N ≤ 6) (h : ∀ j, N ≤ j → g j = 0) (a : Nat) : fo g N 0 a = max a (mx6 g) := by
  have h7 : N = 0 ∨ N = 1 ∨ N = 2 ∨ N = 3 ∨ N = 4 ∨ N = 5 ∨ N = 6 := by omega
  have z0 := h 0
  have z1 := h 1
  have z2 := h 2
  have z3 := h 3
  have z4 := h 4
  have z5 := h 5
  unfold mx6
  rcases h7 with rfl | rfl | rfl | rfl | rfl | rfl | rfl <;> simp only [fo, Nat.reduceAdd] <;> omega
section FOURS2
variable {Tg Tm : Gp}
theorem c_known (Tg : Gp) {x : Nat} (hx : x < 64) : fX2_greatestKnown Tg (nI x) = some (Tg 2 x) := by
  have w1 : fX10_within (nI x) (nI 0) (nI 63) = some (bI true) := by
    rw [show (63 : Nat) = 64 - 1 from rfl, within_ok (by omega) (by omega), ok_nI hx (by omega)]
  have q : (ix (nI x) 64) = True := by rw [e_ix (by omega)]; exact eq_true hx
  have z := cl_nI (show x < 2 ^ 31 by omega)
  unfold fX2_greatestKnown
  simp only [lit, w1, bd1_s, bI_0, Bool.true_eq_false, if_false, q, z, if_true]
theorem c_27 (h : LR Tg Tm) {T : Nat → Nat} {N R l : Nat} (hN : N ≤ 6) (hR : R < 64) (hl : l < 6) (hlR : hb R l = false) (hT : ∀ S, S < R → Tg 2 S = nI (T S)) (hb2 : ∀ S, S < 64 → T S ≤ 30000) : ∀ (k j n acc : Nat), j + k = N → k < n → acc ≤ 31000 → lX2_greatestOfSet_27 Tg n (nI N) (nI R) (nI l) (nI acc) (nI j) = some (nI (fo (fun j => if hb R j = true then T (rmB R j) + w4 Tg l j else 0) k j acc)) := by
  intro k
  induction k with
  | zero =>
    intro j n acc hk hn ha
    obtain ⟨n, rfl, -⟩ := gt_s hn
    rw [sX2_greatestOfSet_27]
    unfold fX2_greatestOfSet_27
    have q0 : (nI N ≤ nI j) = True := by rw [e_le (by omega) (by omega)]; exact eq_true (by omega)
    simp only [q0, if_true]
    rfl
  | succ k ih =>
    intro j n acc hk hn ha
    obtain ⟨n, rfl, hn⟩ := gt_s hn
    have hj6 : j < 6 := by omega
    have er := b_rm ⟨R, hR⟩ ⟨j, hj6⟩
    simp only at er
    have rl := rm_lt hR hj6
    rw [sX2_greatestOfSet_27]
    unfold fX2_greatestOfSet_27
    have q0 : (nI N ≤ nI j) = False := by rw [e_le (by omega) (by omega)]; exact eq_false (by omega)
    have ck := c_known Tg rl.1
    simp only [m1_eq]
    simp only [lit, q0, er, ck, bd1_s, if_true, if_false, e_add, e_eq (show rmB R j < 2 ^ 31 by omega) (show R < 2 ^ 31 by omega)]
    show _ = some (nI (fo _ k (j + 1) (max acc (if hb R j = true then T (rmB R j) + w4 Tg l j else 0))))
    by_cases hh : hb R j = true
    · have lt := rm_ltS hR hj6 hh
      have hjl : l ≠ j := fun e => by rw [e, hh] at hlR; cases hlR
      have hv := c_value h hl hj6 hjl
      have hw : w4 Tg l j ≤ 397 := by
        have := lk_e h (show 0 < 2 by omega) hl hj6 hjl
        unfold w4
        rw [if_neg hjl]
        omega
      have ht := hb2 (rmB R j) rl.1
      rw [if_neg (by omega), hv, hT _ lt, if_pos hh]
      simp only [bd1_s, e_add]
      rw [e_imx (by omega) (by omega)]
      exact ih (j + 1) n _ (by omega) (by omega) (by omega)
    · have e : rmB R j = R := by unfold rmB; rw [if_neg hh]
      rw [if_pos e, if_neg hh, Nat.max_eq_left (Nat.zero_le _)]
      exact ih (j + 1) n _ (by omega) (by omega) ha
end FOURS2
