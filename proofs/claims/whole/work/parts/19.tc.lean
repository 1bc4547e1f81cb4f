/-! the two tables, made -/
def pT (w : Nat → Nat → Nat) : Nat → Nat → Nat
  | 0, _ => 0
  | n + 1, S => if S = 0 then 0 else max (pT w n (rmB S (lowB S))) (mx6 fun j => if hb (rmB S (lowB S)) j = true then pT w n (rmB (rmB S (lowB S)) j) + w (lowB S) j else 0)
def qT (w : Nat → Nat → Nat) : Nat → Nat → Nat
  | 0, _ => 0
  | n + 1, S => mx6 fun i => mx6 fun j => if i < j ∧ hb S i = true ∧ hb S j = true then qT w n (rmB (rmB S i) j) + w i j else 0
theorem mx6_c {f g : Nat → Nat} (h : ∀ i, i < 6 → f i = g i) : mx6 f = mx6 g := by
  unfold mx6
  rw [h 0 (by omega), h 1 (by omega), h 2 (by omega), h 3 (by omega), h 4 (by omega), h 5 (by omega)]
theorem pT_0 (w : Nat → Nat → Nat) (n : Nat) : pT w n 0 = 0 := by
  cases n
  · rfl
  · exact if_pos rfl
theorem pT_st (w : Nat → Nat → Nat) : ∀ n m S, S < 64 → S ≤ n → S ≤ m → pT w n S = pT w m S := by
  intro n
  induction n with
  | zero =>
    intro m S hS h1 h2
    have : S = 0 := by omega
    rw [this, pT_0, pT_0]
  | succ n ih =>
    intro m S hS h1 h2
    by_cases h0 : S = 0
    · rw [h0, pT_0, pT_0]
    · obtain ⟨m, rfl⟩ : ∃ k, m = k + 1 := ⟨m - 1, by omega⟩
      have hl := low_lt hS
      have bl := low_hb hS (by omega)
      have sl := rm_ltS hS hl bl
      show (if S = 0 then 0 else _) = (if S = 0 then 0 else _)
      rw [if_neg h0, if_neg h0, ih m (rmB S (lowB S)) (by omega) (by omega) (by omega)]
      congr 1
      refine mx6_c (fun j hj => ?_)
      have s2 := rm_lt (show rmB S (lowB S) < 64 by omega) hj
      rw [ih m (rmB (rmB S (lowB S)) j) (by omega) (by omega) (by omega)]
theorem pT_low (w : Nat → Nat → Nat) : lowT 64 w (fun S => pT w 64 S) := by
  refine ⟨pT_0 w 64, fun S h0 hS => ?_⟩
  have hl := low_lt hS
  have bl := low_hb hS h0
  have sl := rm_ltS hS hl bl
  show (if S = 0 then 0 else _) = _
  rw [if_neg (by omega), pT_st w 63 64 (rmB S (lowB S)) (by omega) (by omega) (by omega)]
  exact congrArg (fun z => max (pT w 64 (rmB S (lowB S))) z) (mx6_c (fun j hj => by
    have s2 := rm_lt (show rmB S (lowB S) < 64 by omega) hj
    rw [pT_st w 63 64 (rmB (rmB S (lowB S)) j) (by omega) (by omega) (by omega)]))
theorem qT_st (w : Nat → Nat → Nat) : ∀ n m S, S < 64 → S ≤ n → S ≤ m → qT w n S = qT w m S := by
  have z : ∀ n, qT w n 0 = 0 := by
    intro n
    cases n
    · rfl
    · show (mx6 fun i => mx6 fun j => _) = 0
      apply Nat.le_antisymm _ (Nat.zero_le _)
      refine mx6_le (fun i _ => mx6_le (fun j _ => ?_))
      rw [if_neg (by
        intro h
        have := hb_0 h.2.1
        omega)]
      exact Nat.le_refl _
  intro n
  induction n with
  | zero =>
    intro m S hS h1 h2
    have : S = 0 := by omega
    rw [this, z, z]
  | succ n ih =>
    intro m S hS h1 h2
    by_cases h0 : S = 0
    · rw [h0, z, z]
    · obtain ⟨m, rfl⟩ : ∃ k, m = k + 1 := ⟨m - 1, by omega⟩
      show (mx6 fun i => mx6 fun j => _) = (mx6 fun i => mx6 fun j => _)
      refine mx6_c (fun i hi => mx6_c (fun j hj => ?_))
      by_cases c : i < j ∧ hb S i = true ∧ hb S j = true
      · rw [if_pos c, if_pos c]
        have s1 := rm_ltS hS hi c.2.1
        have s2 := rm_lt (show rmB S i < 64 by omega) hj
        rw [ih m (rmB (rmB S i) j) (by omega) (by omega) (by omega)]
      · rw [if_neg c, if_neg c]
theorem qT_any (w : Nat → Nat → Nat) : anyT 64 w (fun S => qT w 64 S) := by
  intro S hS
  show (mx6 fun i => mx6 fun j => _) = _
  refine mx6_c (fun i hi => mx6_c (fun j hj => ?_))
  by_cases c : i < j ∧ hb S i = true ∧ hb S j = true
  · rw [if_pos c, if_pos c]
    have s1 := rm_ltS hS hi c.2.1
    have s2 := rm_lt (show rmB S i < 64 by omega) hj
    rw [qT_st w 63 64 (rmB (rmB S i) j) (by omega) (by omega) (by omega)]
  · rw [if_neg c, if_neg c]
/-- the table of fours, by its lowest, is also the table by any pair -/
theorem pT_any {w : Nat → Nat → Nat} (hw : ∀ i j, w i j = w j i) : anyT 64 w (fun S => pT w 64 S) := by
  have e := low_any (Nat.le_refl 64) hw (pT_low w) (qT_any w)
  intro S hS
  show pT w 64 S = _
  rw [← e S hS]
  have a := qT_any w S hS
  simp only at a
  rw [a]
  refine mx6_c (fun i hi => mx6_c (fun j hj => ?_))
  by_cases c : i < j ∧ hb S i = true ∧ hb S j = true
  · rw [if_pos c, if_pos c]
    have s1 := rm_ltS hS hi c.2.1
    have s2 := rm_lt (show rmB S i < 64 by omega) hj
    have := e (rmB (rmB S i) j) (by omega)
    rw [this]
  · rw [if_neg c, if_neg c]
theorem pT_le {w : Nat → Nat → Nat} (hw : ∀ i j, i < 6 → j < 6 → w i j ≤ 397) : ∀ n S, S < 64 → pT w n S ≤ 400 * S := by
  intro n
  induction n with
  | zero => intro S _; exact Nat.zero_le _
  | succ n ih =>
    intro S hS
    show (if S = 0 then 0 else _) ≤ _
    by_cases h0 : S = 0
    · rw [if_pos h0]; exact Nat.zero_le _
    · rw [if_neg h0]
      have hl := low_lt hS
      have bl := low_hb hS (by omega)
      have sl := rm_ltS hS hl bl
      have a := ih (rmB S (lowB S)) (by omega)
      apply Nat.max_le.mpr
      refine ⟨by omega, mx6_le (fun j hj => ?_)⟩
      have s2 := rm_lt (show rmB S (lowB S) < 64 by omega) hj
      have b := ih (rmB (rmB S (lowB S)) j) (by omega)
      have c := hw (lowB S) j hl hj
      split <;> omega
