def lP (P : Nat → Bool) : Nat → Nat → Int32 → Int32
  | 0, _, x => x
  | k + 1, s, x => lP P k (s + 1) (if P (s + 1) = true then nI (s + 1) else x)
def fQ (Q : Nat → Bool) : Nat → Nat → Int32
  | 0, _ => -nI 1
  | k + 1, t => if Q t = true then nI t else fQ Q k (t + 1)
theorem lP_none (P : Nat → Bool) : ∀ k s x, (∀ t, s < t → t ≤ s + k → P t = false) → lP P k s x = x := by
  intro k
  induction k with
  | zero => intro s x _; rfl
  | succ k ih =>
    intro s x h
    show lP P k (s + 1) (if P (s + 1) = true then nI (s + 1) else x) = x
    rw [h (s + 1) (by omega) (by omega), if_neg (by simp)]
    exact ih (s + 1) x (fun t h1 h2 => h t (by omega) (by omega))
theorem lP_at (P : Nat → Bool) (m : Nat) (hm : P m = true) : ∀ k s x, s < m → m ≤ s + k → (∀ t, m < t → t ≤ s + k → P t = false) → lP P k s x = nI m := by
  intro k
  induction k with
  | zero => intro s x h1 h2 _; omega
  | succ k ih =>
    intro s x h1 h2 h
    show lP P k (s + 1) (if P (s + 1) = true then nI (s + 1) else x) = nI m
    by_cases e : m = s + 1
    · rw [← e, hm, if_pos rfl]
      exact lP_none P k m (nI m) (fun t g1 g2 => h t g1 (by omega))
    · exact ih (s + 1) _ (by omega) (by omega) (fun t g1 g2 => h t g1 (by omega))
theorem fQ_none (Q : Nat → Bool) : ∀ k t, (∀ i, t ≤ i → i < t + k → Q i = false) → fQ Q k t = -nI 1 := by
  intro k
  induction k with
  | zero => intro t _; rfl
  | succ k ih =>
    intro t h
    show (if Q t = true then nI t else fQ Q k (t + 1)) = _
    rw [h t (by omega) (by omega), if_neg (by simp)]
    exact ih (t + 1) (fun i h1 h2 => h i (by omega) (by omega))
theorem fQ_at (Q : Nat → Bool) (m : Nat) (hm : Q m = true) : ∀ k t, t ≤ m → m < t + k → (∀ i, t ≤ i → i < m → Q i = false) → fQ Q k t = nI m := by
  intro k
  induction k with
  | zero => intro t h1 h2 _; omega
  | succ k ih =>
    intro t h1 h2 h
    show (if Q t = true then nI t else fQ Q k (t + 1)) = _
    by_cases e : t = m
    · rw [e, hm, if_pos rfl]
    · rw [h t (by omega) (by omega), if_neg (by simp)]
      exact ih (t + 1) (by omega) (by omega) (fun i h1 h2 => h i (by omega) h2)
def pre (b : Nat → Bool) (c : Nat) : Nat → Nat
  | 0 => 0
  | t + 1 => pre b c t + 64 * cc b c t 0
def pP (b : Nat → Bool) (a c L t : Nat) : Bool := decide (pre b c t + (64 * a + 1 + kT b a c L t 1) = kT b a c L 0 0)
def qQ (b : Nat → Bool) (a c L t : Nat) : Bool := !decide (kT b a c L t 0 = sT b a c L t 0)
theorem pre_mod (b : Nat → Bool) (c t : Nat) : pre b c t % 64 = 0 := by
  induction t with
  | zero => rfl
  | succ t ih => show (pre b c t + 64 * cc b c t 0) % 64 = 0; omega
theorem slip_eq (b : Nat → Bool) (a c : Nat) {L : Nat} (h0 : 1 ≤ L) (hL : L ≤ 40) : lP (pP b a c L) (L - 1) 0 (-nI 1) = fQ (qQ b a c L) L 0 := by
  have hK : kT b a c L 0 0 = pre b c 1 + mS b a c L 1 0 := by
    rw [kT_s b a c 0 (show 0 < L by omega)]
    show 64 * cc b c 0 0 + mS b a c L 1 0 = 0 + 64 * cc b c 0 0 + mS b a c L 1 0
    omega
  have hstep : ∀ t, t < L → pre b c t + kT b a c L t 0 = pre b c (t + 1) + mS b a c L (t + 1) 0 := by
    intro t ht
    rw [kT_s b a c 0 ht]
    show _ = pre b c t + 64 * cc b c t 0 + _
    omega
  have hle : ∀ t, mS b a c L t 0 ≤ kT b a c L t 0 := fun t => Nat.min_le_left _ _
  have hle2 : ∀ t, mS b a c L t 0 ≤ 64 * a + 1 + kT b a c L t 1 := fun t => Nat.min_le_right _ _
  have hor : ∀ t, mS b a c L t 0 = kT b a c L t 0 ∨ mS b a c L t 0 = 64 * a + 1 + kT b a c L t 1 := by
    intro t
    show min _ _ = _ ∨ min _ _ = _
    by_cases h : kT b a c L t 0 ≤ 64 * a + 1 + kT b a c L t (1 - 0)
    · left; exact Nat.min_eq_left h
    · right; exact Nat.min_eq_right (by omega)
  have hQ0 : qQ b a c L 0 = false := by unfold qQ sT; simp
  have hQ : ∀ t, 1 ≤ t → (qQ b a c L t = false ↔ kT b a c L t 0 = mS b a c L t 0) := by
    intro t ht
    unfold qQ sT
    rw [if_neg (by omega)]
    simp
  by_cases hq : ∃ m, 1 ≤ m ∧ m < L ∧ qQ b a c L m = true ∧ ∀ t, 1 ≤ t → t < m → qQ b a c L t = false
  · obtain ⟨m, m1, m2, m3, m4⟩ := hq
    have hf : ∀ t, 1 ≤ t → t ≤ m → pre b c t + mS b a c L t 0 = kT b a c L 0 0 := by
      intro t
      induction t with
      | zero => intro h; omega
      | succ t ih =>
        intro _ h2
        by_cases ht : t = 0
        · rw [ht, hK]
        · rw [← hstep t (by omega), (hQ t (by omega)).mp (m4 t (by omega) (by omega))]
          exact ih (by omega) (by omega)
    have hm0 : ¬ kT b a c L m 0 = mS b a c L m 0 := fun e => by
      rw [(hQ m m1).mpr e] at m3
      cases m3
    have hfm := hf m m1 (Nat.le_refl _)
    have hgt : ∀ t, m < t → t ≤ L → kT b a c L 0 0 < pre b c t + mS b a c L t 0 := by
      intro t
      induction t with
      | zero => intro h; omega
      | succ t ih =>
        intro h1 h2
        have hs := hstep t (by omega)
        have hl := hle t
        by_cases ht : t = m
        · rw [ht] at hs hl ⊢
          omega
        · have := ih (by omega) (by omega)
          omega
    rw [lP_at (pP b a c L) m (by
      unfold pP
      apply decide_eq_true
      have := hor m
      omega) (L - 1) 0 _ (by omega) (by omega) (fun t h1 h2 => by
      unfold pP
      apply decide_eq_false
      have := hgt t h1 (by omega)
      have := hle2 t
      omega)]
    rw [fQ_at (qQ b a c L) m m3 L 0 (by omega) (by omega) (fun i _ h2 => by
      by_cases h : i = 0
      · rw [h]; exact hQ0
      · exact m4 i (by omega) h2)]
  · have hno : ∀ t, 1 ≤ t → t < L → qQ b a c L t = false := by
      intro t
      induction t using Nat.strongRecOn with
      | ind t ih =>
        intro h1 h2
        cases h : qQ b a c L t
        · rfl
        · exact absurd ⟨t, h1, h2, h, fun i g1 g2 => ih i g2 g1 (by omega)⟩ hq
    have hf : ∀ t, 1 ≤ t → t ≤ L → pre b c t + mS b a c L t 0 = kT b a c L 0 0 := by
      intro t
      induction t with
      | zero => intro h; omega
      | succ t ih =>
        intro _ h2
        by_cases ht : t = 0
        · rw [ht, hK]
        · rw [← hstep t (by omega), (hQ t (by omega)).mp (hno t (by omega) (by omega))]
          exact ih (by omega) (by omega)
    have hfL := hf L h0 (Nat.le_refl _)
    have hL0 := kT_L b a c L 0
    have hlL := hle L
    have hpm := pre_mod b c L
    rw [lP_none (pP b a c L) (L - 1) 0 _ (fun t h1 h2 => by
      unfold pP
      apply decide_eq_false
      have p1 := kT_mod b a c hL t 1
      have p2 := pre_mod b c t
      omega)]
    rw [fQ_none (qQ b a c L) L 0 (fun i _ h2 => by
      by_cases h : i = 0
      · rw [h]; exact hQ0
      · exact hno i (by omega) (by omega))]
section SLIPF
variable {Tm Tr : Gp}
theorem pre_le (b : Nat → Bool) {c : Nat} (hc : c ≤ 9) (t : Nat) : pre b c t ≤ 576 * t := by
  induction t with
  | zero => exact Nat.le_refl _
  | succ t ih =>
    have := cc_le b (c := c) t 0
    show pre b c t + 64 * cc b c t 0 ≤ _
    omega
theorem c_first {b : Nat → Bool} {L a c : Nat} (hL : L ≤ 40) (ha : a ≤ 9) (hc : c ≤ 9) (h0 : Tr 0 0 = nI L) (hb : ∀ i, i < L → Tr 1 i = bI (b i)) (h : tC b a c L 0 Tr) : ∀ (k s n : Nat) (x : Int32), s + 1 + k = L → k < n → lX6_firstSlip_16 n Tr (nI a) (nI c) (nI (kT b a c L 0 0)) (nI (pre b c s)) x (nI (s + 1)) = some (lP (pP b a c L) k s x, Tr) := by
  intro k
  induction k with
  | zero =>
    intro s n x hk hn
    obtain ⟨n, rfl, -⟩ := gt_s hn
    rw [sX6_firstSlip_16]
    unfold fX6_firstSlip_16
    rw [h0, if_pos (by rw [e_le (by omega) (by omega)]; omega)]
    rfl
  | succ k ih =>
    intro s n x hk hn
    obtain ⟨n, rfl, hn⟩ := gt_s hn
    have k1 := c_costOf hL h0 hb (show s < L by omega) (show 0 < 2 by omega) (c := c)
    have g2 := h (s + 1) 1 (by omega) (by omega) (by omega)
    have l2 := kT_le b (a := a) hc hL (s + 1) 1
    have l0 := kT_le b (a := a) hc hL 0 0
    have l3 := pre_le b hc (s + 1)
    rw [sX6_firstSlip_16]
    unfold fX6_firstSlip_16
    have f2 := c_slipTo Tr (a := a) (show 2 * (s + 1) + 1 < 82 by omega) g2
    have q0 : (nI L ≤ nI (s + 1)) = False := by rw [e_le (by omega) (by omega)]; exact eq_false (by omega)
    have hs : nI (s + 1) - nI 1 = nI s := e_sub (by omega)
    have hp : pre b c s + 64 * cc b c s 0 = pre b c (s + 1) := rfl
    simp only [lit, h0, e_add, hs, q0, f2, k1, hp, bd1_s, if_true, if_false]
    simp only [e_eq (show pre b c (s + 1) + (a * 64 + 1 + kT b a c L (s + 1) 1) < 2 ^ 31 by omega) (show kT b a c L 0 0 < 2 ^ 31 by omega)]
    show _ = some (lP (pP b a c L) k (s + 1) (if pP b a c L (s + 1) = true then nI (s + 1) else x), Tr)
    by_cases hx : pP b a c L (s + 1) = true
    · have hx1 := of_decide_eq_true hx
      rw [if_pos (by omega), if_pos hx]
      exact ih (s + 1) n _ (by omega) (by omega)
    · have hx1 : ¬ (pre b c (s + 1) + (64 * a + 1 + kT b a c L (s + 1) 1) = kT b a c L 0 0) := fun e => hx (decide_eq_true e)
      rw [if_neg (by omega), if_neg hx]
      exact ih (s + 1) n _ (by omega) (by omega)
theorem m_first {b : Nat → Bool} {L a c : Nat} (hL : L ≤ 40) (ha : a ≤ 9) (hc : c ≤ 9) (h0 : Tm 0 29 = nI L) (hb : ∀ i, i < L → Tm 17 i = bI (b i)) (h : tM b a c L 0 Tm) : ∀ (k t n : Nat), t + k = L → k < n → lX11_slips_182 n Tm (nI c) (nI t) = some (fQ (qQ b a c L) k t, Tm) := by
  intro k
  induction k with
  | zero =>
    intro t n hk hn
    obtain ⟨n, rfl, -⟩ := gt_s hn
    rw [sX11_slips_182]
    unfold fX11_slips_182
    rw [h0, if_pos (by rw [e_le (by omega) (by omega)]; omega)]
    rfl
  | succ k ih =>
    intro t n hk hn
    obtain ⟨n, rfl, hn⟩ := gt_s hn
    have k1 := m_stays hL hc hb (show t < L by omega) (show 0 < 2 by omega) (fun w hw => h (t + 1) w (by omega) (by omega) hw)
    have g := h t 0 (by omega) (by omega) (by omega)
    rw [Nat.add_zero] at g
    have l1 := kT_le b (a := a) hc hL t 0
    have l2 : sT b a c L t 0 ≤ 23040 := by
      unfold sT
      split
      · exact l1
      · exact mS_le b hc hL t 0
    have b1 := eE_le (x := kT b a c L t 0) (by omega)
    have b2 := eE_le (x := sT b a c L t 0) (by omega)
    rw [sX11_slips_182]
    unfold fX11_slips_182
    have q0 : (nI L ≤ nI t) = False := by rw [e_le (by omega) (by omega)]; exact eq_false (by omega)
    have q1 : (ix (nI (2 * t)) 82) = True := by rw [e_ix (by omega)]; exact eq_true (by omega)
    have z := cl_nI (show 2 * t < 2 ^ 31 by omega)
    simp only [lit, h0, e_add, e_mul, q0, q1, z, k1, g, bd1_s, if_true, if_false, e_eq (show eE (kT b a c L t 0) < 2 ^ 31 by omega) (show eE (sT b a c L t 0) < 2 ^ 31 by omega)]
    show _ = some (if qQ b a c L t = true then nI t else fQ (qQ b a c L) k (t + 1), Tm)
    by_cases hx : kT b a c L t 0 = sT b a c L t 0
    · rw [if_pos (by rw [hx]), if_neg (by unfold qQ; simp [hx])]
      exact ih (t + 1) n (by omega) (by omega)
    · rw [if_neg (by unfold eE; omega), if_pos (by unfold qQ; simp [hx])]
end SLIPF
