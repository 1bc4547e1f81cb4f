/-! bits -/
theorem bit_s : ∀ j : Fin 12, ((nI j.1 &&& nI 31).toBitVec.smod 32).toNat = j.1 := by decide
theorem bI_bit (b : Bool) (i : Nat) : (bI b).toBitVec.getLsbD i = (b && decide (i = 0)) := by
  cases b
  · show (0#32).getLsbD i = _
    simp
  · show (1#32).getLsbD i = _
    rw [BitVec.getLsbD_one]
    simp
theorem bit_get (B : Int32) {j : Nat} (hj : j < 12) : (B >>> (nI j &&& nI 31)) &&& nI 1 = bI (B.toBitVec.getLsbD j) := by
  apply Int32.toBitVec_inj.mp
  rw [Int32.toBitVec_and, Int32.toBitVec_shiftRight]
  have hs := bit_s ⟨j, hj⟩
  unfold BitVec.sshiftRight'
  rw [hs]
  rw [show (nI 1).toBitVec = 1#32 from rfl]
  apply BitVec.eq_of_getLsbD_eq
  intro i hi
  rw [BitVec.getLsbD_and, BitVec.getLsbD_sshiftRight, BitVec.getLsbD_one, bI_bit]
  by_cases h : i = 0
  · subst h
    have h1 : j < 32 := by omega
    simp [h1]
  · simp [h]
theorem bit_1 : ∀ i j : Fin 12, (nI 1 <<< (nI i.1 &&& nI 31)).toBitVec.getLsbD j.1 = decide (i = j) := by decide
theorem bit_2 : ∀ i j : Fin 12, ((nI 1 <<< (nI i.1 &&& nI 31)) ^^^ -nI 1).toBitVec.getLsbD j.1 = !decide (i = j) := by decide
theorem bit_or (B : Int32) {i j : Nat} (hi : i < 12) (hj : j < 12) : (B ||| (nI 1 <<< (nI i &&& nI 31))).toBitVec.getLsbD j = (B.toBitVec.getLsbD j || decide (i = j)) := by
  have := bit_1 ⟨i, hi⟩ ⟨j, hj⟩
  rw [Int32.toBitVec_or, BitVec.getLsbD_or, this]
  simp
theorem bit_and (B : Int32) {i j : Nat} (hi : i < 12) (hj : j < 12) : (B &&& ((nI 1 <<< (nI i &&& nI 31)) ^^^ -nI 1)).toBitVec.getLsbD j = (B.toBitVec.getLsbD j && !decide (i = j)) := by
  have := bit_2 ⟨i, hi⟩ ⟨j, hj⟩
  rw [Int32.toBitVec_and, BitVec.getLsbD_and, this]
  simp
theorem bit_dec {b c : Bool} : (bI b = bI c) = (b = c) := by cases b <;> cases c <;> simp [bI] <;> decide
def su (k a : Nat) : Bool := decide (a = 0) || (decide (a = 1) && decide (k < 3)) || ((decide (a = 2) || decide (a = 6)) && decide (k = 3)) || (decide (a = 3) && decide (k < 2)) || (decide (a = 4) && decide (k = 1)) || (decide (a = 5) && decide (k = 2))
theorem c_isSuch : ∀ (k : Fin 4) (a : Fin 7), fX10_isSuch (nI k.1) (nI a.1) = some (bI (su k.1 a.1)) := by
  have hw : ∀ (r : Int32 → Int32 → Int32 → Option Int32) (x1 : Int32) (i j : Nat), i < 7 → j < 7 → fX10_isSuch_6 r x1 (nI i) (nI j) = if nI i = x1 then some (nI 1) else r x1 (ev_ka i) (nI (j + 1)) := by
    intro r x1 i j hi hj
    unfold fX10_isSuch_6
    simp only [lit]
    rw [show nI 7 - nI 1 = nI 6 from rfl, w_7, ok_nI hi (by omega)]
    have q1 : (nI 7 ≤ nI j) = False := by rw [e_le (by omega) (by omega)]; exact eq_false (by omega)
    have q2 : (ix (nI i) 7) = True := by rw [e_ix (by omega)]; exact eq_true (by omega)
    simp only [q1, q2, if_true, if_false, bd1_s, e_add, bI_0]
    rw [cl_nI (show i < 2 ^ 31 by omega)]
    simp
  have hm : ∀ (r : Int32 → Int32 → Int32 → Option Int32) (x1 : Int32) (j a : Nat), j < 7 → a < 7 → fX10_isSuch_6 r (nI a) (-nI 1) (nI j) = some (nI 0) := by
    intro r x1 j a hj ha
    unfold fX10_isSuch_6
    simp only [lit]
    rw [show nI 7 - nI 1 = nI 6 from rfl, w_7, show ok (-nI 1) 7 = false from by decide]
    have q1 : (nI 7 ≤ nI j) = False := by rw [e_le (by omega) (by omega)]; exact eq_false (by omega)
    have q2 : (-nI 1 = nI a) = False := e_meq (by omega)
    simp only [q1, q2, if_true, if_false, bd1_s, bI_f]
  have hn : ∃ n, fu = n + 1 + 1 + 1 + 1 + 1 := by
    obtain ⟨n, hn⟩ := fu_ex
    exact ⟨n + 99985, hn⟩
  obtain ⟨n, hn⟩ := hn
  intro k a
  unfold fX10_isSuch
  simp only [lit, e_add]
  rw [hn]
  have k0 : ev_ka 0 = -nI 1 := rfl
  have k1 : ev_ka 1 = nI 0 := rfl
  have k2 : ev_ka 2 = nI 0 := rfl
  have k3 : ev_ka 3 = nI 1 := rfl
  have k4 : ev_ka 4 = nI 3 := rfl
  have k5 : ev_ka 5 = nI 1 := rfl
  have k6 : ev_ka 6 = nI 2 := rfl
  obtain ⟨a, ha⟩ := a
  obtain ⟨k, hk⟩ := k
  have hk4 : k = 0 ∨ k = 1 ∨ k = 2 ∨ k = 3 := by omega
  have ha7 : a = 0 ∨ a = 1 ∨ a = 2 ∨ a = 3 ∨ a = 4 ∨ a = 5 ∨ a = 6 := by omega
  rcases hk4 with rfl | rfl | rfl | rfl <;> rcases ha7 with rfl | rfl | rfl | rfl | rfl | rfl | rfl <;> simp (disch := omega) only [sX10_isSuch_6, hw, hm, k0, k1, k2, k3, k4, k5, k6, e_eq, Nat.reduceAdd, Nat.reduceEqDiff, if_true, if_false] <;> rfl
