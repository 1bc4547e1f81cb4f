/-! pairs of a set: by its lowest, or any -/
def mx6 (g : Nat → Nat) : Nat := max (g 0) (max (g 1) (max (g 2) (max (g 3) (max (g 4) (g 5)))))
theorem mx6_ge (g : Nat → Nat) {i : Nat} (h : i < 6) : g i ≤ mx6 g := by
  unfold mx6
  have : i = 0 ∨ i = 1 ∨ i = 2 ∨ i = 3 ∨ i = 4 ∨ i = 5 := by omega
  rcases this with rfl | rfl | rfl | rfl | rfl | rfl <;> omega
theorem mx6_le {g : Nat → Nat} {m : Nat} (h : ∀ i, i < 6 → g i ≤ m) : mx6 g ≤ m := by
  unfold mx6
  have h0 := h 0 (by omega)
  have h1 := h 1 (by omega)
  have h2 := h 2 (by omega)
  have h3 := h 3 (by omega)
  have h4 := h 4 (by omega)
  have h5 := h 5 (by omega)
  omega
def lowT (M : Nat) (w : Nat → Nat → Nat) (T : Nat → Nat) : Prop := T 0 = 0 ∧ ∀ S, 0 < S → S < M → T S = max (T (rmB S (lowB S))) (mx6 fun j => if hb (rmB S (lowB S)) j = true then T (rmB (rmB S (lowB S)) j) + w (lowB S) j else 0)
def anyT (M : Nat) (w : Nat → Nat → Nat) (T : Nat → Nat) : Prop := ∀ S, S < M → T S = mx6 fun i => mx6 fun j => if i < j ∧ hb S i = true ∧ hb S j = true then T (rmB (rmB S i) j) + w i j else 0
theorem hb_rm {S i j : Nat} (hS : S < 64) (hi : i < 6) (hj : j < 6) : hb (rmB S i) j = (hb S j && !decide (i = j)) := by
  have := b_hr ⟨S, hS⟩ ⟨i, hi⟩ ⟨j, hj⟩
  simp only [Fin.mk.injEq] at this
  exact this
theorem rm_lt {S i : Nat} (hS : S < 64) (hi : i < 6) : rmB S i < 64 ∧ rmB S i ≤ S := by
  have := b_lt ⟨S, hS⟩ ⟨i, hi⟩
  exact ⟨this.1, this.2.1⟩
theorem rm_ltS {S i : Nat} (hS : S < 64) (hi : i < 6) (h : hb S i = true) : rmB S i < S := b_ltS ⟨S, hS⟩ ⟨i, hi⟩ h
theorem rm_comm {S i j : Nat} (hS : S < 64) (hi : i < 6) (hj : j < 6) : rmB (rmB S i) j = rmB (rmB S j) i := b_comm ⟨S, hS⟩ ⟨i, hi⟩ ⟨j, hj⟩
theorem hb_0 {S i : Nat} (h : hb S i = true) : 0 < S := by
  unfold hb at h
  have := of_decide_eq_true h
  apply Nat.pos_of_ne_zero
  intro e
  rw [e, Nat.zero_div] at this
  omega
theorem low_lt {S : Nat} (hS : S < 64) : lowB S < 6 := (b_lowlt ⟨S, hS⟩).1
theorem low_hb {S : Nat} (hS : S < 64) (h : 0 < S) : hb S (lowB S) = true := (b_low ⟨S, hS⟩ h).2.2
theorem low_rm {S i : Nat} (hS : S < 64) (hi : i < 6) (h : 0 < rmB S i) (hne : i ≠ lowB S) : lowB (rmB S i) = lowB S := b_lowr ⟨S, hS⟩ ⟨i, hi⟩ h hne
theorem exch {M : Nat} (hM : M ≤ 64) {w : Nat → Nat → Nat} (hw : ∀ i j, w i j = w j i) {T : Nat → Nat} (h : lowT M w T) : ∀ S, S < M → ∀ i j, i < 6 → j < 6 → i ≠ j → hb S i = true → hb S j = true → T (rmB (rmB S i) j) + w i j ≤ T S := by
  intro S
  induction S using Nat.strongRecOn with
  | ind S ih =>
    intro hS i j hi hj hij bi bj
    have hS6 : S < 64 := by omega
    have hpos := hb_0 bi
    have hl := low_lt hS6
    have bl := low_hb hS6 hpos
    have eS := h.2 S hpos hS
    have first : ∀ k, k < 6 → k ≠ lowB S → hb S k = true → T (rmB (rmB S (lowB S)) k) + w (lowB S) k ≤ T S := by
      intro k hk hne bk
      rw [eS]
      refine Nat.le_trans ?_ (Nat.le_max_right _ _)
      refine Nat.le_trans ?_ (mx6_ge _ hk)
      show _ ≤ if hb (rmB S (lowB S)) k = true then _ else _
      rw [if_pos (by rw [hb_rm hS6 hl hk, bk]; simp; omega)]
      exact Nat.le_refl _
    by_cases hil : i = lowB S
    · rw [hil]; rw [hil] at hij
      exact first j hj (fun e => hij e.symm) bj
    · by_cases hjl : j = lowB S
      · rw [rm_comm hS6 hi hj, hw i j, hjl]; rw [hjl] at hij
        exact first i hi hij bi
      · have s1 := rm_lt hS6 hi
        have s2 := rm_lt s1.1 hj
        have bl1 : hb (rmB S i) (lowB S) = true := by rw [hb_rm hS6 hi hl, bl]; simp; omega
        have bl2 : hb (rmB (rmB S i) j) (lowB S) = true := by rw [hb_rm s1.1 hj hl, bl1]; simp; omega
        have p1 := hb_0 bl1
        have p2 := hb_0 bl2
        have l1 : lowB (rmB S i) = lowB S := low_rm hS6 hi p1 hil
        have l2 : lowB (rmB (rmB S i) j) = lowB S := by rw [low_rm s1.1 hj p2 (by rw [l1]; exact hjl), l1]
        have eS2 := h.2 (rmB (rmB S i) j) p2 (by omega)
        rw [l2] at eS2
        have sl := rm_ltS hS6 hl bl
        have c1 : rmB (rmB (rmB S i) j) (lowB S) = rmB (rmB (rmB S (lowB S)) i) j := by
          rw [rm_comm s1.1 hj hl, rm_comm hS6 hi hl]
        have bi1 : hb (rmB S (lowB S)) i = true := by rw [hb_rm hS6 hl hi, bi]; simp; omega
        have bj1 : hb (rmB S (lowB S)) j = true := by rw [hb_rm hS6 hl hj, bj]; simp; omega
        have A := ih (rmB S (lowB S)) sl (by omega) i j hi hj hij bi1 bj1
        have A2 : T (rmB S (lowB S)) ≤ T S := by rw [eS]; exact Nat.le_max_left _ _
        have B : mx6 (fun k => if hb (rmB (rmB (rmB S i) j) (lowB S)) k = true then T (rmB (rmB (rmB (rmB S i) j) (lowB S)) k) + w (lowB S) k else 0) + w i j ≤ T S := by
          have : ∀ k, k < 6 → (if hb (rmB (rmB (rmB S i) j) (lowB S)) k = true then T (rmB (rmB (rmB (rmB S i) j) (lowB S)) k) + w (lowB S) k else 0) ≤ T S - w i j := by
            intro k hk
            by_cases bk : hb (rmB (rmB (rmB S i) j) (lowB S)) k = true
            · rw [if_pos bk]
              have s3 := rm_lt s2.1 hl
              rw [hb_rm s2.1 hl hk, hb_rm s1.1 hj hk, hb_rm hS6 hi hk] at bk
              simp only [Bool.and_eq_true, Bool.not_eq_true', decide_eq_false_iff_not] at bk
              obtain ⟨⟨⟨bk0, bki⟩, bkj⟩, bkl⟩ := bk
              have t1 := rm_lt hS6 hl
              have t2 := rm_lt t1.1 hk
              have bk1 : hb (rmB S (lowB S)) k = true := by rw [hb_rm hS6 hl hk, bk0]; simp; omega
              have bi2 : hb (rmB (rmB S (lowB S)) k) i = true := by rw [hb_rm t1.1 hk hi, bi1]; simp; omega
              have bj2 : hb (rmB (rmB S (lowB S)) k) j = true := by rw [hb_rm t1.1 hk hj, bj1]; simp; omega
              have C := ih (rmB (rmB S (lowB S)) k) (by omega) (by omega) i j hi hj hij bi2 bj2
              have D := first k hk (fun e => bkl e.symm) bk0
              have t3 := rm_lt t1.1 hi
              have c2 : rmB (rmB (rmB (rmB S i) j) (lowB S)) k = rmB (rmB (rmB (rmB S (lowB S)) k) i) j := by
                rw [c1, rm_comm t3.1 hj hk, rm_comm t1.1 hi hk]
              rw [c2]
              omega
            · rw [if_neg bk]
              omega
          have q := mx6_le this
          have q2 : w i j ≤ T S := by omega
          omega
        rw [eS2]
        rw [c1] at B ⊢
        omega
theorem any_mono {M : Nat} (hM : M ≤ 64) {w : Nat → Nat → Nat} {T : Nat → Nat} (h : anyT M w T) : ∀ S, S < M → ∀ l, l < 6 → hb S l = true → T (rmB S l) ≤ T S := by
  intro S
  induction S using Nat.strongRecOn with
  | ind S ih =>
    intro hS l hl bl
    have hS6 : S < 64 := by omega
    have s1 := rm_lt hS6 hl
    rw [h (rmB S l) (by omega)]
    refine mx6_le (fun i hi => mx6_le (fun j hj => ?_))
    by_cases c : i < j ∧ hb (rmB S l) i = true ∧ hb (rmB S l) j = true
    · rw [if_pos c]
      obtain ⟨hij, bi, bj⟩ := c
      rw [hb_rm hS6 hl hi] at bi
      rw [hb_rm hS6 hl hj] at bj
      simp only [Bool.and_eq_true, Bool.not_eq_true', decide_eq_false_iff_not] at bi bj
      have t1 := rm_lt hS6 hi
      have t2 := rm_lt t1.1 hj
      have l1 := rm_ltS hS6 hi bi.1
      have bj1 : hb (rmB S i) j = true := by rw [hb_rm hS6 hi hj, bj.1]; simp; omega
      have bl1 : hb (rmB S i) l = true := by rw [hb_rm hS6 hi hl, bl]; simp; omega
      have bl2 : hb (rmB (rmB S i) j) l = true := by rw [hb_rm t1.1 hj hl, bl1]; simp; omega
      have A := ih (rmB (rmB S i) j) (by omega) (by omega) l hl bl2
      have c1 : rmB (rmB (rmB S l) i) j = rmB (rmB (rmB S i) j) l := by
        rw [rm_comm hS6 hl hi, rm_comm t1.1 hl hj]
      rw [c1]
      refine Nat.le_trans (Nat.add_le_add_right A _) ?_
      rw [h S hS]
      refine Nat.le_trans ?_ (mx6_ge _ hi)
      refine Nat.le_trans ?_ (mx6_ge _ hj)
      show _ ≤ if _ then _ else _
      rw [if_pos ⟨hij, bi.1, bj.1⟩]
      exact Nat.le_refl _
    · rw [if_neg c]
      exact Nat.zero_le _
theorem low_any {M : Nat} (hM : M ≤ 64) {w : Nat → Nat → Nat} (hw : ∀ i j, w i j = w j i) {T U : Nat → Nat} (h : lowT M w T) (g : anyT M w U) : ∀ S, S < M → U S = T S := by
  intro S
  induction S using Nat.strongRecOn with
  | ind S ih =>
    intro hS
    have hS6 : S < 64 := by omega
    apply Nat.le_antisymm
    · rw [g S hS]
      refine mx6_le (fun i hi => mx6_le (fun j hj => ?_))
      by_cases c : i < j ∧ hb S i = true ∧ hb S j = true
      · rw [if_pos c]
        have s1 := rm_lt hS6 hi
        have l1 := rm_ltS hS6 hi c.2.1
        have s2 := rm_lt s1.1 hj
        rw [ih (rmB (rmB S i) j) (by omega) (by omega)]
        exact exch hM hw h S hS i j hi hj (by omega) c.2.1 c.2.2
      · rw [if_neg c]; exact Nat.zero_le _
    · by_cases h0 : S = 0
      · rw [h0, h.1]; exact Nat.zero_le _
      · have hpos : 0 < S := by omega
        have hl := low_lt hS6
        have bl := low_hb hS6 hpos
        have sl := rm_ltS hS6 hl bl
        have s1 := rm_lt hS6 hl
        rw [h.2 S hpos hS]
        apply Nat.max_le.mpr
        refine ⟨?_, mx6_le (fun j hj => ?_)⟩
        · rw [← ih (rmB S (lowB S)) sl (by omega)]
          exact any_mono hM g S hS _ hl bl
        · by_cases bj : hb (rmB S (lowB S)) j = true
          · rw [if_pos bj]
            have s2 := rm_lt s1.1 hj
            rw [← ih (rmB (rmB S (lowB S)) j) (by omega) (by omega), g S hS]
            rw [hb_rm hS6 hl hj] at bj
            simp only [Bool.and_eq_true, Bool.not_eq_true', decide_eq_false_iff_not] at bj
            by_cases hlt : lowB S < j
            · refine Nat.le_trans ?_ (mx6_ge _ hl)
              refine Nat.le_trans ?_ (mx6_ge _ hj)
              show _ ≤ if _ then _ else _
              rw [if_pos ⟨hlt, bl, bj.1⟩]
              exact Nat.le_refl _
            · refine Nat.le_trans ?_ (mx6_ge _ hj)
              refine Nat.le_trans ?_ (mx6_ge _ hl)
              show _ ≤ if _ then _ else _
              rw [if_pos ⟨by omega, bj.1, bl⟩, rm_comm hS6 hj hl, hw j]
              exact Nat.le_refl _
          · rw [if_neg bj]; exact Nat.zero_le _
