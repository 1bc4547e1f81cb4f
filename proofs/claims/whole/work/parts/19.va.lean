/-! the least harm, by sets -/
def fm (g : Nat → Nat) : Nat → Nat → Nat → Nat
  | 0, _, a => a
  | k + 1, j, a => fm g k (j + 1) (min a (g j))
theorem fm_le (g : Nat → Nat) : ∀ k x a, fm g k x a ≤ a ∧ ∀ y, x ≤ y → y < x + k → fm g k x a ≤ g y := by
  intro k
  induction k with
  | zero => intro x a; exact ⟨Nat.le_refl _, fun y h1 h2 => by omega⟩
  | succ k ih =>
    intro x a
    have := ih (x + 1) (min a (g x))
    show fm g k (x + 1) (min a (g x)) ≤ a ∧ _
    refine ⟨by omega, fun y h1 h2 => ?_⟩
    show fm g k (x + 1) (min a (g x)) ≤ g y
    by_cases e : y = x
    · rw [e]; omega
    · exact this.2 y (by omega) (by omega)
theorem fm_or (g : Nat → Nat) : ∀ k x a, fm g k x a = a ∨ ∃ y, x ≤ y ∧ y < x + k ∧ fm g k x a = g y := by
  intro k
  induction k with
  | zero => intro x a; exact Or.inl rfl
  | succ k ih =>
    intro x a
    have mo : ∀ a b : Nat, min a b = a ∨ min a b = b := fun a b => by omega
    rcases ih (x + 1) (min a (g x)) with h | ⟨y, h1, h2, h3⟩
    · rcases mo a (g x) with e | e
      · left; exact h.trans e
      · right; exact ⟨x, by omega, by omega, h.trans e⟩
    · right; exact ⟨y, by omega, by omega, h3⟩
theorem fm_c {f g : Nat → Nat} : ∀ k x a, (∀ y, x ≤ y → y < x + k → f y = g y) → fm f k x a = fm g k x a := by
  intro k
  induction k with
  | zero => intro x a _; rfl
  | succ k ih =>
    intro x a h
    show fm f k (x + 1) (min a (f x)) = fm g k (x + 1) (min a (g x))
    rw [h x (by omega) (by omega)]
    exact ih _ _ (fun y h1 h2 => h y (by omega) (by omega))
def aC (h : Nat → Nat) (al : Nat → Nat → Bool) (T : Nat → Nat) (S j : Nat) : Nat := if hb S j = false ∧ al (cntB S) j = true then min (h (6 * cntB S + j) + T (adB S j)) 1000000 else 1000000
def aI (N S : Nat) : Nat := if S + 1 = 2 ^ N then 0 else 1000000
def aT (h : Nat → Nat) (al : Nat → Nat → Bool) (N : Nat) : Nat → Nat → Nat
  | 0, _ => 1000000
  | n + 1, S => fm (aC h al (aT h al N n) S) N 0 (aI N S)
theorem b_ads : ∀ (S : Fin 64) (j : Fin 6), hb S.1 j.1 = false → adB S.1 j.1 < 64 ∧ S.1 < adB S.1 j.1 ∧ cntB (adB S.1 j.1) = cntB S.1 + 1 ∧ cntB S.1 < 6 := by decide +kernel
theorem b_adN : ∀ (N : Fin 7) (S : Fin 64) (j : Fin 6), S.1 < 2 ^ N.1 → j.1 < N.1 → adB S.1 j.1 < 2 ^ N.1 := by decide +kernel
theorem b_cN : ∀ (N : Fin 7) (S : Fin 64), S.1 < 2 ^ N.1 → cntB S.1 ≤ N.1 ∧ (cntB S.1 = N.1 ↔ S.1 + 1 = 2 ^ N.1) := by decide +kernel
theorem b_free : ∀ (N : Fin 7) (S : Fin 64), S.1 + 1 < 2 ^ N.1 → ∃ j : Fin 6, j.1 < N.1 ∧ hb S.1 j.1 = false := by decide +kernel
theorem b_fre2 : ∀ (N : Fin 7) (S : Fin 64) (k : Fin 6), S.1 < 2 ^ N.1 → cntB S.1 + 1 < N.1 → ∃ j : Fin 6, j.1 < N.1 ∧ hb S.1 j.1 = false ∧ j.1 ≠ k.1 := by decide +kernel
theorem b_adh : ∀ (S : Fin 64) (j k : Fin 6), hb (adB S.1 j.1) k.1 = (hb S.1 k.1 || decide (j = k)) := by decide +kernel
theorem b_2 : ∀ (N : Fin 7), 1 ≤ 2 ^ N.1 ∧ 2 ^ N.1 ≤ 64 := by decide +kernel
theorem ads {S j : Nat} (hS : S < 64) (hj : j < 6) (h : hb S j = false) : adB S j < 64 ∧ S < adB S j ∧ cntB (adB S j) = cntB S + 1 ∧ cntB S < 6 := b_ads ⟨S, hS⟩ ⟨j, hj⟩ h
theorem adN {N S j : Nat} (hN : N ≤ 6) (hS : S < 2 ^ N) (hj : j < N) : adB S j < 2 ^ N := by
  have := (b_2 ⟨N, by omega⟩).2
  simp only at this
  exact b_adN ⟨N, by omega⟩ ⟨S, by omega⟩ ⟨j, by omega⟩ hS hj
section AN
variable {h : Nat → Nat} {al : Nat → Nat → Bool} {N : Nat}
theorem aT_st (hN : N ≤ 6) : ∀ n m S, S < 64 → 64 ≤ S + n → 64 ≤ S + m → aT h al N n S = aT h al N m S := by
  intro n
  induction n with
  | zero => intro m S hS h1 h2; omega
  | succ n ih =>
    intro m S hS h1 h2
    obtain ⟨m, rfl⟩ : ∃ k, m = k + 1 := ⟨m - 1, by omega⟩
    show fm _ N 0 _ = fm _ N 0 _
    refine fm_c _ _ _ (fun j _ hj => ?_)
    unfold aC
    by_cases c : hb S j = false ∧ al (cntB S) j = true
    · rw [if_pos c, if_pos c]
      have a := ads hS (by omega) c.1
      rw [ih m (adB S j) a.1 (by omega) (by omega)]
    · rw [if_neg c, if_neg c]
theorem aT_e (hN : N ≤ 6) {S : Nat} (hS : S < 64) : aT h al N 64 S = fm (aC h al (aT h al N 64) S) N 0 (aI N S) := by
  show fm _ N 0 _ = _
  refine fm_c _ _ _ (fun j _ hj => ?_)
  unfold aC
  by_cases c : hb S j = false ∧ al (cntB S) j = true
  · rw [if_pos c, if_pos c]
    have a := ads hS (by omega) c.1
    rw [aT_st hN 63 64 (adB S j) a.1 (by omega) (by omega)]
  · rw [if_neg c, if_neg c]
theorem aT_b (hh : ∀ i, i < 36 → h i ≤ 99) (hN : N ≤ 6) : ∀ n S, S < 64 → aT h al N n S ≤ 99 * (64 - S) ∨ aT h al N n S = 1000000 := by
  intro n
  induction n with
  | zero => intro S _; exact Or.inr rfl
  | succ n ih =>
    intro S hS
    show fm _ N 0 _ ≤ _ ∨ fm _ N 0 _ = _
    rcases fm_or (aC h al (aT h al N n) S) N 0 (aI N S) with e | ⟨j, -, hj, e⟩
    · rw [e]; unfold aI
      by_cases c : S + 1 = 2 ^ N
      · rw [if_pos c]; omega
      · rw [if_neg c]; omega
    · rw [e]; unfold aC
      by_cases c : hb S j = false ∧ al (cntB S) j = true
      · rw [if_pos c]
        have a := ads hS (by omega) c.1
        have b := ih _ a.1
        have d := hh (6 * cntB S + j) (by omega)
        omega
      · rw [if_neg c]; omega
theorem aT_1 (hh : ∀ i, i < 36 → h i ≤ 99) (hN : N ≤ 6) {S : Nat} (hS : S < 64) : aT h al N 64 S ≤ 1000000 := by
  rcases aT_b hh hN (al := al) 64 S hS with e | e <;> omega
/-- sets that can be filled up -/
theorem aT_ok (hh : ∀ i, i < 36 → h i ≤ 99) (hN : N ≤ 6) (P : Nat → Prop) (hP : ∀ S, S + 1 < 2 ^ N → P S → ∃ j, j < N ∧ hb S j = false ∧ al (cntB S) j = true ∧ P (adB S j)) : ∀ k S, S + k = 64 → S < 2 ^ N → P S → aT h al N 64 S < 1000000 := by
  have h2 := (b_2 ⟨N, by omega⟩).2
  simp only at h2
  intro k
  induction k using Nat.strongRecOn with
  | ind k ih =>
    intro S hk hS p
    rw [aT_e hN (by omega)]
    by_cases c : S + 1 = 2 ^ N
    · have := (fm_le (aC h al (aT h al N 64) S) N 0 (aI N S)).1
      unfold aI at this
      rw [if_pos c] at this
      unfold aI
      rw [if_pos c]
      omega
    · obtain ⟨j, hj, b, a, q⟩ := hP S (by omega) p
      have := (fm_le (aC h al (aT h al N 64) S) N 0 (aI N S)).2 j (by omega) (by omega)
      have s := ads (show S < 64 by omega) (by omega) b
      have t := ih (64 - adB S j) (by omega) (adB S j) (by omega) (adN hN hS hj) q
      have u := aT_b hh hN (al := al) 64 (adB S j) s.1
      have d := hh (6 * cntB S + j) (by omega)
      unfold aC at this
      rw [if_pos ⟨b, a⟩] at this
      unfold aC
      omega
end AN
section AN2
variable {Th Tm : Gp}
def ha (Th : Gp) (i : Nat) : Nat := (Th 1 i).toNatClampNeg
theorem ha_e (h : HR Th Tm) {i : Nat} (hi : i < 36) : Th 1 i = nI (ha Th i) ∧ Tm 13 i = nI (ha Th i) ∧ ha Th i ≤ 99 := by
  obtain ⟨w, hw, e1, e2⟩ := h i hi
  have : ha Th i = w := by unfold ha; rw [e1, cl_nI (by omega)]
  rw [this]
  exact ⟨e1, e2, hw⟩
theorem ha_u (S : Nat) (v : Int32) : ha (u2 Th 2 S v) = ha Th := by
  have : u2 Th 2 S v 1 = Th 1 := u2_c (by omega)
  funext i
  unfold ha
  rw [this]
theorem HR_u (h : HR Th Tm) (S : Nat) (v : Int32) : HR (u2 Th 2 S v) Tm := by
  have : u2 Th 2 S v 1 = Th 1 := u2_c (by omega)
  unfold HR at h ⊢
  rw [this]
  exact h
def aL (o w : Int32) (row j : Nat) : Bool := decide (nI row = o) == decide (nI j = w)
theorem c_leastWith (h : HR Th Tm) {T : Nat → Nat} {S j : Nat} (hS : S < 64) (hj : j < 6) (hT : ∀ S', S < S' → S' < 64 → hb S j = false → S' = adB S j → Th 2 S' = nI (T S') ∧ T S' ≤ 1000000) : fX4_leastWith Th (nI S) (nI (cntB S)) (nI j) = some (nI (if hb S j = false then min (ha Th (6 * cntB S + j) + T (adB S j)) 1000000 else 1000000)) := by
  have e1 := b_ad ⟨S, hS⟩ ⟨j, hj⟩
  simp only at e1
  have bl := b_lt ⟨S, hS⟩ ⟨j, hj⟩
  simp only at bl
  unfold fX4_leastWith
  simp only [lit, e1, e_eq (show adB S j < 2 ^ 31 by omega) (show S < 2 ^ 31 by omega)]
  by_cases c : hb S j = false
  · have a := ads hS hj c
    have k := hT (adB S j) a.2.1 a.1 c rfl
    have hd := ha_e h (show 6 * cntB S + j < 36 by omega)
    have e6 : cntB S * 6 + j = 6 * cntB S + j := by omega
    have w1 : fX10_within (nI (adB S j)) (nI 0) (nI 63) = some (bI true) := by
      rw [show (63 : Nat) = 64 - 1 from rfl, within_ok (by omega) (by omega), ok_nI a.1 (by omega)]
    have w2 : fX10_within (nI (6 * cntB S + j)) (nI 0) (nI 36 - nI 1) = some (bI true) := by
      rw [show nI 36 - nI 1 = nI (36 - 1) from rfl, within_ok (by omega) (by omega), ok_nI (by omega) (by omega)]
    have q1 : (ix (nI (6 * cntB S + j)) 36) = True := by rw [e_ix (by omega)]; exact eq_true (by omega)
    have q2 : (ix (nI (adB S j)) 64) = True := by rw [e_ix (by omega)]; exact eq_true (by omega)
    have z1 := cl_nI (show 6 * cntB S + j < 2 ^ 31 by omega)
    have z2 := cl_nI (show adB S j < 2 ^ 31 by omega)
    rw [if_neg (by omega), if_pos c]
    simp only [e_mul, e_add, e6, w1, w2, bd1_s, bI_0, q1, q2, z1, z2, hd.1, k.1, Bool.true_eq_false, if_false, if_true]
    rw [e_imn (by omega) (by omega)]
  · have : adB S j = S := by unfold adB; rw [if_pos (by simpa using c)]
    rw [if_pos this, if_neg c]
theorem c_46 (h : HR Th Tm) {T : Nat → Nat} {N S : Nat} (rec16 : Gp → Int32 → Int32 → Int32 → Int32 → Int32 → Option (Int32 × Gp)) (o w x4 : Int32) (hN : N ≤ 6) (hS : S < 2 ^ N) (hT : ∀ S', S < S' → S' < 2 ^ N → Th 2 S' = nI (T S') ∧ T S' ≤ 1000000) : ∀ k j n acc, j + k = N → k < n → acc ≤ 1000000 → lX4_leastHarm_46 rec16 n Th (nI N) o w x4 (nI S) (nI (cntB S)) (nI acc) (nI j) = rec16 (u2 Th 2 S (nI (fm (aC (ha Th) (aL o w) T S) k j acc))) (nI N) o w x4 (nI S + -nI 1) := by
  have h2 := (b_2 ⟨N, by omega⟩).2
  simp only at h2
  intro k
  induction k with
  | zero =>
    intro j n acc hk hn ha
    obtain ⟨n, rfl, -⟩ := gt_s hn
    rw [sX4_leastHarm_46]
    unfold fX4_leastHarm_46
    have q0 : (nI N ≤ nI j) = True := by rw [e_le (by omega) (by omega)]; exact eq_true (by omega)
    have q2 : (ix (nI S) 64) = True := by rw [e_ix (by omega)]; exact eq_true (by omega)
    simp only [m1_eq]
    simp only [lit, q0, q2, if_true]
    rw [cl_nI (show S < 2 ^ 31 by omega)]
    rfl
  | succ k ih =>
    intro j n acc hk hn hac
    obtain ⟨n, rfl, hn⟩ := gt_s hn
    rw [sX4_leastHarm_46]
    have lw := c_leastWith h (T := T) (show S < 64 by omega) (show j < 6 by omega) (by
      intro S' h1 h3 c e
      exact hT S' h1 (by rw [e]; exact adN hN hS (by omega)))
    unfold fX4_leastHarm_46 fX4_leastHarm_63 fX4_leastHarm_76
    have q0 : (nI N ≤ nI j) = False := by rw [e_le (by omega) (by omega)]; exact eq_false (by omega)
    have q1 : (nI 1 = nI 0) = False := by rw [e_eq (by omega) (by omega)]; exact eq_false (by omega)
    have q2 : (nI 0 = nI 1) = False := by rw [e_eq (by omega) (by omega)]; exact eq_false (by omega)
    simp only [lit, q0, q1, q2, if_false, if_true, lw, bd1_s, e_add]
    show _ = rec16 (u2 Th 2 S (nI (fm _ k (j + 1) (min acc (aC (ha Th) (aL o w) T S j))))) _ _ _ _ _
    have gl : aC (ha Th) (aL o w) T S j = if aL o w (cntB S) j = true then (if hb S j = false then min (ha Th (6 * cntB S + j) + T (adB S j)) 1000000 else 1000000) else 1000000 := by
      unfold aC
      by_cases c1 : hb S j = false
      · by_cases c2 : aL o w (cntB S) j = true
        · rw [if_pos ⟨c1, c2⟩, if_pos c2, if_pos c1]
        · rw [if_neg (fun e => c2 e.2), if_neg c2]
      · rw [if_neg (fun e => c1 e.1), if_neg c1]
        split <;> rfl
    have bnd : (if hb S j = false then min (ha Th (6 * cntB S + j) + T (adB S j)) 1000000 else 1000000) ≤ 1000000 := by
      split <;> omega
    rw [e_imn (by omega) (by omega)]
    rw [show aL o w (cntB S) j = (decide (nI (cntB S) = o) == decide (nI j = w)) from rfl] at gl
    by_cases c1 : nI (cntB S) = o
    · by_cases c2 : nI j = w
      · rw [if_pos c1, if_pos c2]
        rw [if_pos (by simp [c1, c2])] at gl
        rw [← gl]
        exact ih (j + 1) n _ (by omega) (by omega) (by omega)
      · rw [if_pos c1, if_neg c2]
        rw [if_neg (by simp [c1, c2])] at gl
        rw [gl, Nat.min_eq_left hac]
        exact ih (j + 1) n _ (by omega) (by omega) (by omega)
    · by_cases c2 : nI j = w
      · rw [if_neg c1, if_pos c2]
        rw [if_neg (by simp [c1, c2])] at gl
        rw [gl, Nat.min_eq_left hac]
        exact ih (j + 1) n _ (by omega) (by omega) (by omega)
      · rw [if_neg c1, if_neg c2]
        rw [if_pos (by simp [c1, c2])] at gl
        rw [← gl]
        exact ih (j + 1) n _ (by omega) (by omega) (by omega)
theorem c_16 {N : Nat} (o w : Int32) (hN : N ≤ 6) : ∀ S n Th, HR Th Tm → S < 2 ^ N → S + 1 < n → (∀ S', S < S' → S' < 2 ^ N → Th 2 S' = nI (aT (ha Th) (aL o w) N 64 S')) → ∃ Ta, lX4_leastHarm_16 n Th (nI N) o w (nI (2 ^ N - 1)) (nI S) = some (nI (aT (ha Th) (aL o w) N 64 0), Ta) ∧ HR Ta Tm ∧ ha Ta = ha Th ∧ ∀ S', S' < 2 ^ N → Ta 2 S' = nI (aT (ha Th) (aL o w) N 64 S') := by
  have h2 := (b_2 ⟨N, by omega⟩).2
  simp only at h2
  intro S
  induction S with
  | zero =>
    intro n Th h hS hn hT
    obtain ⟨n, rfl, hn⟩ := gt_s hn
    obtain ⟨n, rfl, hn⟩ := gt_s (show 0 < n by omega)
    rw [sX4_leastHarm_16]
    unfold fX4_leastHarm_16
    have q0 : (nI 0 < nI 0) = False := by rw [e_lt (by omega) (by omega)]; exact eq_false (by omega)
    have bc := b_cnt ⟨0, by omega⟩
    simp only at bc
    have st := fun acc (ha' : acc ≤ 1000000) => c_46 h (T := aT (ha Th) (aL o w) N 64) (lX4_leastHarm_16 (n + 1)) o w (nI (2 ^ N - 1)) hN hS (fun S' h1 h3 => ⟨hT S' h1 h3, aT_1 (fun i hi => (ha_e h hi).2.2) hN (by omega)⟩) N 0 fu acc (by omega) (fu_gt (by omega)) ha'
    have e := aT_e (h := ha Th) (al := aL o w) hN (show 0 < 64 by omega)
    unfold aI at e
    simp only [lit, q0, if_false, bc, st 0 (by omega), st 1000000 (by omega), e_eq (show 0 < 2 ^ 31 by omega) (show 2 ^ N - 1 < 2 ^ 31 by omega)]
    have fin : ∀ acc, acc = aI N 0 → ∃ Ta, lX4_leastHarm_16 (n + 1) (u2 Th 2 0 (nI (fm (aC (ha Th) (aL o w) (aT (ha Th) (aL o w) N 64) 0) N 0 acc))) (nI N) o w (nI (2 ^ N - 1)) (nI 0 + -nI 1) = some (nI (aT (ha Th) (aL o w) N 64 0), Ta) ∧ HR Ta Tm ∧ ha Ta = ha Th ∧ ∀ S', S' < 2 ^ N → Ta 2 S' = nI (aT (ha Th) (aL o w) N 64 S') := by
      intro acc hacc
      have e' := aT_e (h := ha Th) (al := aL o w) hN (show 0 < 64 by omega)
      rw [hacc, ← e', sX4_leastHarm_16]
      unfold fX4_leastHarm_16
      have q1 : (nI 0 + -nI 1 < nI 0) = True := eq_true (by decide)
      simp only [lit, q1, if_true]
      rw [cl_nI (show 0 < 2 ^ 31 by omega), u2_same]
      refine ⟨_, rfl, HR_u h _ _, ha_u _ _, fun S' hS' => ?_⟩
      rw [u2_ap]
      by_cases g : S' = 0
      · rw [if_pos ⟨rfl, g⟩, g]
      · rw [if_neg (fun e => g e.2)]
        exact hT S' (by omega) hS'
    by_cases c : 0 = 2 ^ N - 1
    · rw [if_pos c]
      exact fin 0 (by unfold aI; rw [if_pos (by omega)])
    · rw [if_neg c]
      exact fin 1000000 (by unfold aI; rw [if_neg (by omega)])
  | succ S ih =>
    intro n Th h hS hn hT
    obtain ⟨n, rfl, hn⟩ := gt_s hn
    rw [sX4_leastHarm_16]
    unfold fX4_leastHarm_16
    have q0 : (nI (S + 1) < nI 0) = False := by rw [e_lt (by omega) (by omega)]; exact eq_false (by omega)
    have bc := b_cnt ⟨S + 1, by omega⟩
    simp only at bc
    have st := fun acc (ha' : acc ≤ 1000000) => c_46 h (T := aT (ha Th) (aL o w) N 64) (lX4_leastHarm_16 n) o w (nI (2 ^ N - 1)) hN hS (fun S' h1 h3 => ⟨hT S' h1 h3, aT_1 (fun i hi => (ha_e h hi).2.2) hN (by omega)⟩) N 0 fu acc (by omega) (fu_gt (by omega)) ha'
    simp only [lit, q0, if_false, bc, st 0 (by omega), st 1000000 (by omega), e_eq (show S + 1 < 2 ^ 31 by omega) (show 2 ^ N - 1 < 2 ^ 31 by omega)]
    have e1 : nI (S + 1) + -nI 1 = nI S := by rw [← Int32.sub_eq_add_neg, e_sub (by omega)]; rfl
    rw [e1]
    have fin : ∀ acc, acc = aI N (S + 1) → ∃ Ta, lX4_leastHarm_16 n (u2 Th 2 (S + 1) (nI (fm (aC (ha Th) (aL o w) (aT (ha Th) (aL o w) N 64) (S + 1)) N 0 acc))) (nI N) o w (nI (2 ^ N - 1)) (nI S) = some (nI (aT (ha Th) (aL o w) N 64 0), Ta) ∧ HR Ta Tm ∧ ha Ta = ha Th ∧ ∀ S', S' < 2 ^ N → Ta 2 S' = nI (aT (ha Th) (aL o w) N 64 S') := by
      intro acc hacc
      have e' := aT_e (h := ha Th) (al := aL o w) hN (show S + 1 < 64 by omega)
      rw [hacc, ← e']
      have := ih n (u2 Th 2 (S + 1) (nI (aT (ha Th) (aL o w) N 64 (S + 1)))) (HR_u h _ _) (by omega) (by omega) (by
        intro S' h1 h3
        rw [ha_u, u2_ap]
        by_cases g : S' = S + 1
        · rw [if_pos ⟨rfl, g⟩, g]
        · rw [if_neg (fun e => g e.2)]
          exact hT S' (by omega) h3)
      rw [ha_u] at this
      exact this
    by_cases c : S + 1 = 2 ^ N - 1
    · rw [if_pos c]
      exact fin 0 (by unfold aI; rw [if_pos (by omega)])
    · rw [if_neg c]
      exact fin 1000000 (by unfold aI; rw [if_neg (by omega)])
end AN2
