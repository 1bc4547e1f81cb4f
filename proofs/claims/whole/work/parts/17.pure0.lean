theorem lit (n : Nat) : (OfNat.ofNat n : Int32) = nI n := rfl
theorem m1_eq : (-1 : Int32) = -nI 1 := rfl
section PB
variable {α β γ δ ε ζ : Type}
theorem bd1_s (a : α) (k : α → Option γ) : bd1 (some a) k = k a := rfl
theorem bd2_s (a : α) (b : β) (k : α → β → Option γ) : bd2 (some (a, b)) k = k a b := rfl
theorem bd3_s (a : α) (b : β) (c : δ) (k : α → β → δ → Option γ) : bd3 (some (a, b, c)) k = k a b c := rfl
theorem bd4_s (a : α) (b : β) (c : δ) (d : ε) (k : α → β → δ → ε → Option γ) : bd4 (some (a, b, c, d)) k = k a b c d := rfl
theorem bd5_s (a : α) (b : β) (c : δ) (d : ε) (e : ζ) (k : α → β → δ → ε → ζ → Option γ) : bd5 (some (a, b, c, d, e)) k = k a b c d e := rfl
theorem lpf_s {τ : Type} (bot : τ) (F : τ → τ) (n : Nat) : lpf bot F (n + 1) = F (lpf bot F n) := rfl
end PB
theorem cl_nI {n : Nat} (h : n < 2 ^ 31) : (nI n).toNatClampNeg = n := nI_clamp h
theorem e_lt {a b : Nat} (ha : a < 2 ^ 31) (hb : b < 2 ^ 31) : (nI a < nI b) = (a < b) := propext (nI_ltI ha hb)
theorem e_le {a b : Nat} (ha : a < 2 ^ 31) (hb : b < 2 ^ 31) : (nI a ≤ nI b) = (a ≤ b) := propext (nI_leI ha hb)
theorem e_eq {a b : Nat} (ha : a < 2 ^ 31) (hb : b < 2 ^ 31) : (nI a = nI b) = (a = b) := propext (nI_eq ha hb)
theorem e_ix {a n : Nat} (ha : a < 2 ^ 31) : (ix (nI a) n) = (a < n) := by
  apply propext
  show ¬ (nI a < 0 ∨ n ≤ (nI a).toNatClampNeg) ↔ a < n
  rw [nI_clamp ha]
  constructor
  · intro h
    exact Nat.lt_of_not_le fun h1 => h (Or.inr h1)
  · intro h h1
    rcases h1 with h1 | h1
    · exact nI_pos ha h1
    · omega
theorem e_add (a b : Nat) : nI a + nI b = nI (a + b) := nI_add a b
theorem e_mul (a b : Nat) : nI a * nI b = nI (a * b) := pk_mul a b
theorem e_sub {a b : Nat} (h : b ≤ a) : nI a - nI b = nI (a - b) := pk_sub h
theorem e_ltm {a : Nat} (ha : a < 2 ^ 31) : (nI a < -nI 1) = False := by
  apply propext
  rw [Int32.lt_iff_toInt_lt, nI_toInt ha]
  have : (-nI 1).toInt = -1 := by decide
  rw [this]
  constructor
  · intro h; omega
  · intro h; exact h.elim
theorem e_mlt {a : Nat} (ha : a < 2 ^ 31) : (-nI 1 < nI a) = True := by
  apply propext
  rw [Int32.lt_iff_toInt_lt, nI_toInt ha]
  have : (-nI 1).toInt = -1 := by decide
  rw [this]
  constructor
  · intro _; trivial
  · intro _; omega
theorem e_eqm {a : Nat} (ha : a < 2 ^ 31) : (nI a = -nI 1) = False := by
  apply propext
  constructor
  · intro h
    have h1 := congrArg Int32.toInt h
    rw [nI_toInt ha] at h1
    have : (-nI 1).toInt = -1 := by decide
    omega
  · intro h; exact h.elim
theorem e_meq {a : Nat} (ha : a < 2 ^ 31) : (-nI 1 = nI a) = False := by
  rw [← e_eqm ha]
  exact propext ⟨fun h => h.symm, fun h => h.symm⟩
theorem irm_nI {a b : Nat} (ha : a < 2 ^ 31) (h0 : 0 < b) (hb : b < 2 ^ 31) : irm (nI a) (nI b) = nI (a % b) := pk_rem ha h0 hb
theorem div_nI {a b : Nat} (ha : a < 2 ^ 31) (h0 : 0 < b) (hb : b < 2 ^ 31) : nI a / nI b = nI (a / b) := pk_div ha h0 hb
def bI (b : Bool) : Int32 := if b = true then nI 1 else nI 0
theorem bI_t : bI true = nI 1 := rfl
theorem bI_f : bI false = nI 0 := rfl
theorem bI_0 (b : Bool) : (bI b = nI 0) = (b = false) := by cases b <;> simp [bI] <;> decide
theorem bI_1 (b : Bool) : (bI b = nI 1) = (b = true) := by cases b <;> simp [bI] <;> decide
theorem bI_nar (b : Bool) : vp_nar .boolean (bI b) = bI b := by cases b <;> rfl
theorem nar0 : vp_nar .boolean (nI 0) = nI 0 := rfl
theorem nar1 : vp_nar .boolean (nI 1) = nI 1 := rfl
/-- is it one of 0 .. n less 1 -/
def ok (x : Int32) (n : Nat) : Bool := decide (0 ≤ x.toInt ∧ x.toInt < n)
theorem ok_ex {x : Int32} {n : Nat} (h : ok x n = true) (hn : n < 2 ^ 31) : ∃ j, j < n ∧ x = nI j := by
  have h1 : 0 ≤ x.toInt ∧ x.toInt < n := of_decide_eq_true h
  exact vp_in_of (vp_in_iff.mpr h1) hn
theorem ok_nI {j n : Nat} (h : j < n) (hn : n < 2 ^ 31) : ok (nI j) n = true := by
  unfold ok
  rw [nI_toInt (by omega)]
  exact decide_eq_true ⟨by omega, by omega⟩
theorem within_eq (x a b : Int32) : fX10_within x a b = some (bI (decide (a.toInt ≤ x.toInt ∧ x.toInt ≤ b.toInt))) := by
  unfold fX10_within
  by_cases h1 : x < a
  · rw [if_pos h1]
    rw [Int32.lt_iff_toInt_lt] at h1
    rw [decide_eq_false (by omega)]; rfl
  · rw [if_neg h1]
    by_cases h2 : b < x
    · rw [if_pos h2]
      rw [Int32.lt_iff_toInt_lt] at h2
      rw [decide_eq_false (by omega)]; rfl
    · rw [if_neg h2]
      rw [Int32.lt_iff_toInt_lt] at h1 h2
      rw [decide_eq_true (by omega)]; rfl
theorem in_eq (x : Int32) (a b : Int64) : fX11_in x.toInt64 a b = some (bI (decide (a.toInt ≤ x.toInt ∧ x.toInt ≤ b.toInt))) := by
  have e0 : x.toInt64.toInt = x.toInt := Int32.toInt_toInt64 x
  have c1 : (lg_cmp x.toInt64 a < 0) = (x.toInt < a.toInt) := by
    apply propext
    unfold lg_cmp
    by_cases h1 : a < x.toInt64
    · simp only [h1, if_true]
      rw [Int64.lt_iff_toInt_lt, e0] at h1
      constructor
      · intro h; exact absurd h (by decide)
      · intro h; omega
    · by_cases h2 : x.toInt64 = a
      · simp only [h1, h2, if_true, if_false]
        have h3 := congrArg Int64.toInt h2
        rw [e0] at h3
        constructor
        · intro h; exact absurd h (by simp)
        · intro h; omega
      · simp only [h1, h2, if_false]
        rw [Int64.lt_iff_toInt_lt, e0] at h1
        have h3 : ¬ x.toInt = a.toInt := fun h => h2 (Int64.toInt_inj.mp (by rw [e0]; exact h))
        constructor
        · intro _; omega
        · intro _; decide
  have c2 : (0 < lg_cmp x.toInt64 b) = (b.toInt < x.toInt) := by
    apply propext
    unfold lg_cmp
    by_cases h1 : b < x.toInt64
    · simp only [h1, if_true]
      rw [Int64.lt_iff_toInt_lt, e0] at h1
      constructor
      · intro _; exact h1
      · intro _; decide
    · have h3 : ¬ b.toInt < x.toInt := by rw [Int64.lt_iff_toInt_lt, e0] at h1; exact h1
      by_cases h2 : x.toInt64 = b
      · simp only [h1, h2, if_true, if_false]
        constructor
        · intro h; exact absurd h (by simp)
        · intro h; exact absurd h h3
      · simp only [h1, h2, if_false]
        constructor
        · intro h; exact absurd h (by decide)
        · intro h; exact absurd h h3
  unfold fX11_in
  simp only [c1, c2]
  by_cases h1 : x.toInt < a.toInt
  · rw [if_pos h1, decide_eq_false (by omega)]; rfl
  · rw [if_neg h1]
    by_cases h2 : b.toInt < x.toInt
    · rw [if_pos h2, decide_eq_false (by omega)]; rfl
    · rw [if_neg h2, decide_eq_true (by omega)]; rfl
theorem within_ok {x : Int32} {n : Nat} (h0 : 0 < n) (hn : n < 2 ^ 31) : fX10_within x (nI 0) (nI (n - 1)) = some (bI (ok x n)) := by
  rw [within_eq]
  congr 2
  unfold ok
  rw [nI_toInt (by omega), nI_toInt (by omega)]
  apply decide_eq_decide.mpr
  omega
theorem in_ok {x : Int32} {n : Nat} {b : Int64} (hb : b.toInt = (n : Int) - 1) : fX11_in x.toInt64 0 b = some (bI (ok x n)) := by
  rw [in_eq]
  congr 2
  unfold ok
  have : (0 : Int64).toInt = 0 := by decide
  rw [hb, this]
  apply decide_eq_decide.mpr
  omega
theorem u2_same (S : Gp) (c i : Nat) (v : Int32) : u2 S c i v c i = v := by simp [u2]
theorem u2_c {S : Gp} {c c2 i : Nat} {v : Int32} (h : c2 ≠ c) : u2 S c i v c2 = S c2 := by simp [u2, h]
theorem u2_i {S : Gp} {c i j : Nat} {v : Int32} (h : j ≠ i) : u2 S c i v c j = S c j := by simp [u2, h]
theorem u2_ap (S : Gp) (c i c2 j : Nat) (v : Int32) : u2 S c i v c2 j = if c2 = c ∧ j = i then v else S c2 j := by
  unfold u2
  by_cases h : c2 = c
  · by_cases h2 : j = i
    · simp [h, h2]
    · simp [h, h2]
  · simp [h]
theorem uc_ap (S : Gp) (c c2 j : Nat) (f : Nat → Int32) : uc S c f c2 j = if c2 = c then f j else S c2 j := by
  unfold uc
  by_cases h : c2 = c <;> simp [h]
