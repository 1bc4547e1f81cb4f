theorem fo_iff (g : Nat → Nat) (m : Nat) : ∀ k x a, fo g k x a ≤ m ↔ a ≤ m ∧ ∀ y, x ≤ y → y < x + k → g y ≤ m := by
  intro k
  induction k with
  | zero =>
    intro x a
    exact ⟨fun h => ⟨h, fun y h1 h2 => by omega⟩, fun h => h.1⟩
  | succ k ih =>
    intro x a
    show fo g k (x + 1) (max a (g x)) ≤ m ↔ _
    rw [ih]
    constructor
    · intro h
      refine ⟨by omega, fun y h1 h2 => ?_⟩
      by_cases e : y = x
      · rw [e]; omega
      · exact h.2 y (by omega) (by omega)
    · intro h
      have := h.2 x (by omega) (by omega)
      exact ⟨by omega, fun y h1 h2 => h.2 y (by omega) (by omega)⟩
theorem fo_36 (g : Nat → Nat → Nat) : fo (fun k => g (k / 6) (k % 6)) 36 0 0 = mx6 fun i => mx6 fun j => g i j := by
  apply Nat.le_antisymm
  · rw [fo_iff]
    refine ⟨Nat.zero_le _, fun y _ hy => ?_⟩
    exact Nat.le_trans (mx6_ge (fun j => g (y / 6) j) (show y % 6 < 6 by omega)) (mx6_ge (fun i => mx6 fun j => g i j) (show y / 6 < 6 by omega))
  · refine mx6_le (fun i hi => mx6_le (fun j hj => ?_))
    have := ((fo_iff (fun k => g (k / 6) (k % 6)) (fo (fun k => g (k / 6) (k % 6)) 36 0 0) 36 0 0).mp (Nat.le_refl _)).2 (6 * i + j) (by omega) (by omega)
    rw [show (6 * i + j) / 6 = i by omega, show (6 * i + j) % 6 = j by omega] at this
    exact this
def EE (x : Nat) : Nat := 100 * (x / 4) + x % 4
theorem EE_mono {a b : Nat} (h : a ≤ b) : EE a ≤ EE b := by unfold EE; omega
theorem EE_max (a b : Nat) : EE (max a b) = max (EE a) (EE b) := by
  by_cases h : a ≤ b
  · rw [Nat.max_eq_right h, Nat.max_eq_right (EE_mono h)]
  · rw [Nat.max_eq_left (by omega), Nat.max_eq_left (EE_mono (by omega))]
theorem EE_mx6 (g : Nat → Nat) : EE (mx6 g) = mx6 fun i => EE (g i) := by
  unfold mx6
  simp only [EE_max]
theorem mx6_or (g : Nat → Nat) : ∃ i, i < 6 ∧ mx6 g = g i := by
  have mo : ∀ a b : Nat, max a b = a ∨ max a b = b := fun a b => by omega
  unfold mx6
  rcases mo (g 0) (max (g 1) (max (g 2) (max (g 3) (max (g 4) (g 5))))) with h | h
  · exact ⟨0, by omega, h⟩
  rw [h]
  rcases mo (g 1) (max (g 2) (max (g 3) (max (g 4) (g 5)))) with h | h
  · exact ⟨1, by omega, h⟩
  rw [h]
  rcases mo (g 2) (max (g 3) (max (g 4) (g 5))) with h | h
  · exact ⟨2, by omega, h⟩
  rw [h]
  rcases mo (g 3) (max (g 4) (g 5)) with h | h
  · exact ⟨3, by omega, h⟩
  rw [h]
  rcases mo (g 4) (g 5) with h | h
  · exact ⟨4, by omega, h⟩
  · exact ⟨5, by omega, h⟩
theorem cnt_rm {S i : Nat} (hS : S < 64) (hi : i < 6) (h : hb S i = true) : cntB (rmB S i) + 1 = cntB S := b_cr ⟨S, hS⟩ ⟨i, hi⟩ h
theorem pT_cnt {w : Nat → Nat → Nat} (hw : ∀ i j, i < 6 → j < 6 → i ≠ j → w i j % 4 = 1) : ∀ S, S < 64 → pT w 64 S % 4 ≤ cntB S / 2 := by
  intro S
  induction S using Nat.strongRecOn with
  | ind S ih =>
    intro hS
    by_cases h0 : S = 0
    · rw [h0, pT_0]; exact Nat.zero_le _
    have hl := low_lt hS
    have bl := low_hb hS (by omega)
    have sl := rm_ltS hS hl bl
    have c1 := cnt_rm hS hl bl
    have a := ih _ sl (by omega)
    have e := (pT_low w).2 S (by omega) hS
    simp only at e
    have mo : ∀ a b : Nat, max a b = a ∨ max a b = b := fun a b => by omega
    rw [e]
    rcases mo (pT w 64 (rmB S (lowB S))) (mx6 fun j => if hb (rmB S (lowB S)) j = true then pT w 64 (rmB (rmB S (lowB S)) j) + w (lowB S) j else 0) with h | h
    · rw [h]; omega
    rw [h]
    obtain ⟨j, hj, e2⟩ := mx6_or fun j => if hb (rmB S (lowB S)) j = true then pT w 64 (rmB (rmB S (lowB S)) j) + w (lowB S) j else 0
    rw [e2]
    have hR : rmB S (lowB S) < 64 := by omega
    by_cases bj : hb (rmB S (lowB S)) j = true
    · rw [if_pos bj]
      have s2 := rm_ltS hR hj bj
      have c2 := cnt_rm hR hj bj
      have b := ih _ (show rmB (rmB S (lowB S)) j < S by omega) (by omega)
      have hne : lowB S ≠ j := fun e => by
        rw [← e, hb_rm hS hl hl] at bj
        simp at bj
      have q := hw _ j hl hj hne
      have := (b_lowlt ⟨S, hS⟩).2
      simp only at this
      omega
    · rw [if_neg bj]; exact Nat.zero_le _
section FOURS4
variable {Tg Tm : Gp}
theorem w4_le (h : LR Tg Tm) : ∀ i j, i < 6 → j < 6 → w4 Tg i j ≤ 397 := by
  intro i j hi hj
  unfold w4
  by_cases e : i = j
  · rw [if_pos e]; omega
  · rw [if_neg e]
    have := lk_e h (show 0 < 2 by omega) hi hj e
    omega
theorem w4_m (Tg : Gp) : ∀ i j, i < 6 → j < 6 → i ≠ j → w4 Tg i j % 4 = 1 := by
  intro i j _ _ e
  unfold w4
  rw [if_neg e]
  omega
theorem w4_u (S : Nat) (v : Int32) : w4 (u2 Tg 2 S v) = w4 Tg := by
  have : u2 Tg 2 S v 1 = Tg 1 := u2_c (by omega)
  funext i j
  unfold w4 lk
  rw [this]
theorem LR_u (h : LR Tg Tm) (S : Nat) (v : Int32) : LR (u2 Tg 2 S v) Tm := by
  have : u2 Tg 2 S v 1 = Tg 1 := u2_c (by omega)
  unfold LR at h ⊢
  rw [this]
  exact h
theorem c_20 {N : Nat} (hN : N ≤ 6) (h1N : 2 ^ N ≤ 64) : ∀ k S n Tg, S + k = 2 ^ N → 1 ≤ S → k < n → LR Tg Tm → (∀ S', S' < S → Tg 2 S' = nI (pT (w4 Tg) 64 S')) → ∃ Ta, lX2_greatestOf_20 n Tg (nI N) (nI (2 ^ N - 1)) (nI S) = some (nI (pT (w4 Tg) 64 (2 ^ N - 1)), Ta) ∧ LR Ta Tm := by
  intro k
  induction k with
  | zero =>
    intro S n Tg hk h0 hn h hT
    obtain ⟨n, rfl, -⟩ := gt_s hn
    rw [sX2_greatestOf_20]
    unfold fX2_greatestOf_20
    have q0 : (nI (2 ^ N - 1) < nI S) = True := by rw [e_lt (by omega) (by omega)]; exact eq_true (by omega)
    have ck := c_known Tg (show 2 ^ N - 1 < 64 by omega)
    simp only [lit, q0, ck, bd1_s, if_true]
    rw [hT _ (by omega)]
    exact ⟨_, rfl, h⟩
  | succ k ih =>
    intro S n Tg hk h0 hn h hT
    obtain ⟨n, rfl, hn⟩ := gt_s hn
    rw [sX2_greatestOf_20]
    unfold fX2_greatestOf_20
    have q0 : (nI (2 ^ N - 1) < nI S) = False := by rw [e_lt (by omega) (by omega)]; exact eq_false (by omega)
    have q2 : (ix (nI S) 64) = True := by rw [e_ix (by omega)]; exact eq_true (by omega)
    have e := c_set h hN h0 (by omega) (by omega) (w4_le h) hT
    simp only [lit, q0, q2, e, bd1_s, if_true, if_false, e_add]
    rw [cl_nI (show S < 2 ^ 31 by omega)]
    have := ih (S + 1) n (u2 Tg 2 S (nI (pT (w4 Tg) 64 S))) (by omega) (by omega) (by omega) (LR_u h _ _) (by
      intro S' hS'
      rw [w4_u, u2_ap]
      by_cases g : S' = S
      · rw [if_pos ⟨rfl, g⟩, g]
      · rw [if_neg (fun e => g e.2)]
        exact hT S' (by omega))
    rw [w4_u] at this
    exact this
end FOURS4
