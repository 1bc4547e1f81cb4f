def toM (x : Nat) : Nat := if x < 1000000 then x else 268435456
theorem toM_lt (x : Nat) : toM x ≤ 268435456 := by unfold toM; split <;> omega
theorem toM_s {x : Nat} (h : x < 1000000) : toM x = x := by unfold toM; rw [if_pos h]
theorem toM_b {x : Nat} (h : ¬ x < 1000000) : toM x = 268435456 := by unfold toM; rw [if_neg h]
theorem tm_gen {M F a t d : Nat} (hM : 6336 + 99 < M) (hF : M < F) (hd : d ≤ 99) (ha : a ≤ M) (ea : Nat) (hea : (a < M ∧ ea = a) ∨ (a = M ∧ ea = F)) (et em : Nat) (ht : (t ≤ 6336 ∧ et = t) ∨ (t = M ∧ et = F)) (hem : (min a (min (d + t) M) < M ∧ em = min a (min (d + t) M)) ∨ (min a (min (d + t) M) = M ∧ em = F)) : min ea (d + et) = em := by
  omega
theorem toM_or {x : Nat} (h : x ≤ 1000000) : (x < 1000000 ∧ toM x = x) ∨ (x = 1000000 ∧ toM x = 268435456) := by
  by_cases c : x < 1000000
  · exact Or.inl ⟨c, toM_s c⟩
  · exact Or.inr ⟨by omega, toM_b c⟩
theorem tm_min {a t d : Nat} (ht : t ≤ 6336 ∨ t = 1000000) (hd : d ≤ 99) (ha : a ≤ 1000000) : min (toM a) (d + toM t) = toM (min a (min (d + t) 1000000)) := by
  refine tm_gen (M := 1000000) (F := 268435456) (by omega) (by omega) hd ha (toM a) (toM_or ha) (toM t) _ ?_ (toM_or (Nat.le_trans (Nat.min_le_left _ _) ha))
  rcases ht with h | h
  · exact Or.inl ⟨h, toM_s (by omega)⟩
  · exact Or.inr ⟨h, toM_b (by omega)⟩
theorem m_bits {S : Nat} (hS : S < 64) : fX11_bits (nI S) = some (nI (cntB S)) := by
  have st : ∀ n a k, k < 6 → lX11_bits_4 (n + 1) (nI S) (nI a) (nI k) = lX11_bits_4 n (nI S) (nI (a + (hb S k).toNat)) (nI (k + 1)) := by
    intro n a k hk
    have b := b_has ⟨S, hS⟩ ⟨k, hk⟩
    simp only at b
    have q0 : (nI 6 ≤ nI k) = False := by rw [e_le (by omega) (by omega)]; exact eq_false (by omega)
    have bn : ∀ b : Bool, bI b = nI b.toNat := fun b => by cases b <;> rfl
    rw [sX11_bits_4]
    unfold fX11_bits_4
    simp only [lit, q0, if_false, b, e_add, bn]
  obtain ⟨n, hn⟩ := fu_ex
  have hn2 : fu = n + 99983 + 1 + 1 + 1 + 1 + 1 + 1 + 1 := hn
  unfold fX11_bits
  rw [hn2]
  simp only [lit]
  rw [st _ _ _ (by omega), st _ _ _ (by omega), st _ _ _ (by omega), st _ _ _ (by omega), st _ _ _ (by omega), st _ _ _ (by omega), sX11_bits_4]
  unfold fX11_bits_4
  have q0 : (nI 6 ≤ nI (0 + 1 + 1 + 1 + 1 + 1 + 1)) = True := by rw [e_le (by omega) (by omega)]; exact eq_true (by omega)
  simp only [lit, q0, if_true, Nat.zero_add, Nat.reduceAdd]
  rfl
section AN3
variable {Th Tm : Gp}
theorem m_harmBy (h : HR Th Tm) {T : Nat → Nat} {S j : Nat} {o w : Int32} (ho : o = -nI 1 → w = -nI 1) (hS : S < 64) (hj : j < 6) (hT : hb S j = false → Tm 14 (adB S j) = nI (toM (T (adB S j)))) : fX11_harmBy Tm (nI S) (nI j) o w = some (nI (if hb S j = false ∧ aL o w (cntB S) j = true then ha Th (6 * cntB S + j) + toM (T (adB S j)) else 268435456)) := by
  have e1 := b_ad ⟨S, hS⟩ ⟨j, hj⟩
  have e2 := b_has ⟨S, hS⟩ ⟨j, hj⟩
  simp only at e1 e2
  unfold fX11_harmBy
  simp only [m1_eq]
  rw [m_bits hS]
  simp only [lit, bd1_s, e2, bI_0]
  have k48 : fX11_harmBy_48 Tm (nI S) (nI j) (nI (cntB S)) = some (nI 268435456) := by
    unfold fX11_harmBy_48 fX11_harmBy_49
    simp only [lit, if_true]
  by_cases c : hb S j = false
  · have a := ads hS hj c
    have hd := ha_e h (show 6 * cntB S + j < 36 by omega)
    have tb := toM_lt (T (adB S j))
    have k44 : fX11_harmBy_44 Tm (nI S) (nI j) (nI (cntB S)) = some (nI (ha Th (6 * cntB S + j) + toM (T (adB S j)))) := by
      unfold fX11_harmBy_44 fX11_harmBy_49
      have q0 : (nI 1 = nI 0) = False := by rw [e_eq (by omega) (by omega)]; exact eq_false (by omega)
      have q1 : (ix (nI (6 * cntB S + j)) 36) = True := by rw [e_ix (by omega)]; exact eq_true (by omega)
      have q2 : (ix (nI (adB S j)) 64) = True := by rw [e_ix (by omega)]; exact eq_true (by omega)
      have z1 := cl_nI (show 6 * cntB S + j < 2 ^ 31 by omega)
      have z2 := cl_nI (show adB S j < 2 ^ 31 by omega)
      simp only [lit, q0, if_false, e_mul, e_add, q1, e1, q2, z1, z2, if_true, hd.2.1, hT c]
    rw [if_pos c]
    unfold aL
    by_cases c1 : o = -nI 1
    · have c2 := ho c1
      have q : (o = -nI 1) = True := eq_true c1
      simp only [q, if_true]
      rw [k44, c1, c2, if_pos]
      refine ⟨c, ?_⟩
      simp only [e_eqm (show cntB S < 2 ^ 31 by omega), e_eqm (show j < 2 ^ 31 by omega)]
      rfl
    · have q : (o = -nI 1) = False := eq_false c1
      simp only [q, if_false]
      unfold fX11_harmBy_30 fX11_harmBy_41
      have q1 : (nI 1 = nI 0) = False := by rw [e_eq (by omega) (by omega)]; exact eq_false (by omega)
      have q2 : (nI 0 = nI 1) = False := by rw [e_eq (by omega) (by omega)]; exact eq_false (by omega)
      simp only [lit, q1, q2, if_true, if_false, k44, k48]
      by_cases c3 : nI (cntB S) = o
      · by_cases c4 : nI j = w
        · rw [if_pos c3, if_pos c4, if_pos (by simp [c, c3, c4])]
        · rw [if_pos c3, if_neg c4, if_neg (by simp [c, c3, c4])]
      · by_cases c4 : nI j = w
        · rw [if_neg c3, if_pos c4, if_neg (by simp [c, c3, c4])]
        · rw [if_neg c3, if_neg c4, if_pos (by simp [c, c3, c4])]
  · rw [if_neg c, k48, if_neg (fun e => c e.1)]
theorem m_35 (h : HR Th Tm) {T : Nat → Nat} {N S : Nat} (rec9 : Gp → Int32 → Int32 → Int32 → Option (Int32 × Gp)) {o w : Int32} (ho : o = -nI 1 → w = -nI 1) (hN : N ≤ 6) (h6 : Tm 0 6 = nI N) (hS : S < 2 ^ N) (hT : ∀ S', S < S' → S' < 2 ^ N → Tm 14 S' = nI (toM (T S')) ∧ (T S' ≤ 6336 ∨ T S' = 1000000)) : ∀ k j n acc, j + k = N → k < n → acc ≤ 1000000 → lX11_layRests_35 rec9 n Tm o w (nI S) (nI (toM acc)) (nI j) = rec9 (u2 Tm 14 S (nI (toM (fm (aC (ha Th) (aL o w) T S) k j acc)))) o w (nI S + -nI 1) := by
  have h2 := (b_2 ⟨N, by omega⟩).2
  simp only at h2
  intro k
  induction k with
  | zero =>
    intro j n acc hk hn hac
    obtain ⟨n, rfl, -⟩ := gt_s hn
    rw [sX11_layRests_35]
    unfold fX11_layRests_35
    have q0 : (nI N ≤ nI j) = True := by rw [e_le (by omega) (by omega)]; exact eq_true (by omega)
    have q2 : (ix (nI S) 64) = True := by rw [e_ix (by omega)]; exact eq_true (by omega)
    simp only [m1_eq]
    simp only [lit, h6, q0, q2, if_true]
    rw [cl_nI (show S < 2 ^ 31 by omega)]
    rfl
  | succ k ih =>
    intro j n acc hk hn hac
    obtain ⟨n, rfl, hn⟩ := gt_s hn
    rw [sX11_layRests_35]
    have hj : j < 6 := by omega
    have tacc := toM_lt acc
    have key : fX11_layRests_35 rec9 (lX11_layRests_35 rec9 n) Tm o w (nI S) (nI (toM acc)) (nI j) = lX11_layRests_35 rec9 n Tm o w (nI S) (nI (toM (min acc (aC (ha Th) (aL o w) T S j)))) (nI (j + 1)) := by
      unfold fX11_layRests_35 fX11_layRests_69
      have q0 : (nI N ≤ nI j) = False := by rw [e_le (by omega) (by omega)]; exact eq_false (by omega)
      have hc := b_cN ⟨N, by omega⟩ ⟨S, by omega⟩ hS
      simp only at hc
      have hby := m_harmBy h (T := T) ho (show S < 64 by omega) hj (fun c => (hT _ (ads (by omega) hj c).2.1 (adN hN hS (by omega))).1)
      simp only [lit, h6, q0, if_false, m_bits (show S < 64 by omega), bd1_s, hby, e_add, e_le (show N < 2 ^ 31 by omega) (show cntB S < 2 ^ 31 by omega)]
      have fin : ∀ by' : Nat, by' < 2 ^ 31 → min (toM acc) by' = toM (min acc (aC (ha Th) (aL o w) T S j)) → (if nI (toM acc) ≤ nI by' then lX11_layRests_35 rec9 n Tm o w (nI S) (nI (toM acc)) (nI (j + 1)) else lX11_layRests_35 rec9 n Tm o w (nI S) (nI by') (nI (j + 1))) = lX11_layRests_35 rec9 n Tm o w (nI S) (nI (toM (min acc (aC (ha Th) (aL o w) T S j)))) (nI (j + 1)) := by
        intro by' hb' e
        rw [← e, if_le (by omega) (by omega)]
        by_cases c : toM acc ≤ by'
        · rw [if_pos c, Nat.min_eq_left c]
        · rw [if_neg c, Nat.min_eq_right (by omega)]
      have no : aC (ha Th) (aL o w) T S j = 1000000 → min (toM acc) 268435456 = toM (min acc (aC (ha Th) (aL o w) T S j)) := by
        intro e
        rw [e, Nat.min_eq_left tacc, Nat.min_eq_left hac]
      by_cases c : N ≤ cntB S
      · rw [if_pos c]
        refine fin _ (by omega) (no ?_)
        unfold aC
        rw [if_neg]
        intro e
        have := ads (show S < 64 by omega) hj e.1
        have := adN hN hS (show j < N by omega)
        omega
      · rw [if_neg c]
        by_cases c2 : hb S j = false ∧ aL o w (cntB S) j = true
        · rw [if_pos c2]
          have a := ads (show S < 64 by omega) hj c2.1
          have k1 := (hT _ a.2.1 (adN hN hS (by omega))).2
          have hd := ha_e h (show 6 * cntB S + j < 36 by omega)
          have tb := toM_lt (T (adB S j))
          refine fin _ (by omega) ?_
          unfold aC
          rw [if_pos c2]
          exact tm_min k1 hd.2.2 hac
        · rw [if_neg c2]
          refine fin _ (by omega) (no ?_)
          unfold aC
          rw [if_neg c2]
    rw [key]
    exact ih (j + 1) n _ (by omega) (by omega) (by omega)
theorem HR_u14 (h : HR Th Tm) (S : Nat) (v : Int32) : HR Th (u2 Tm 14 S v) := by
  have : u2 Tm 14 S v 13 = Tm 13 := u2_c (by omega)
  unfold HR at h ⊢
  rw [this]
  exact h
theorem m_9 {N : Nat} {o w : Int32} (ho : o = -nI 1 → w = -nI 1) (hN : N ≤ 6) : ∀ k S n Tm, S + 1 = k → HR Th Tm → Tm 0 6 = nI N → S < 2 ^ N → k < n → (∀ S', S < S' → S' < 2 ^ N → Tm 14 S' = nI (toM (aT (ha Th) (aL o w) N 64 S'))) → ∃ Tn, lX11_layRests_9 n Tm o w (nI S) = some (nI (toM (aT (ha Th) (aL o w) N 64 0)), Tn) ∧ FO 0 Tm Tn ∧ ∀ S', S' < 2 ^ N → Tn 14 S' = nI (toM (aT (ha Th) (aL o w) N 64 S')) := by
  have h2 := (b_2 ⟨N, by omega⟩).2
  simp only at h2
  intro k
  induction k with
  | zero => intro S n Tm hk; omega
  | succ k ih =>
    intro S n Tm hk h h6 hS hn hT
    obtain ⟨n, rfl, hn⟩ := gt_s hn
    have hc := b_cN ⟨N, by omega⟩ ⟨S, by omega⟩ hS
    simp only at hc
    rw [sX11_layRests_9]
    unfold fX11_layRests_9
    have q0 : (nI S < nI 0) = False := by rw [e_lt (by omega) (by omega)]; exact eq_false (by omega)
    have st := fun acc (ha' : acc ≤ 1000000) => m_35 h (T := aT (ha Th) (aL o w) N 64) (lX11_layRests_9 n) ho hN h6 hS (fun S' h1 h3 => ⟨hT S' h1 h3, by
      have := aT_b (h := ha Th) (al := aL o w) (fun i hi => (ha_e h hi).2.2) hN 64 S' (by omega)
      omega⟩) N 0 fu acc (by omega) (fu_gt (by omega)) ha'
    have s0 := st 0 (by omega)
    have s1 := st 1000000 (by omega)
    rw [show toM 0 = 0 by unfold toM; rw [if_pos (by omega)]] at s0
    rw [show toM 1000000 = 268435456 by unfold toM; rw [if_neg (by omega)]] at s1
    simp only [lit, q0, if_false, m_bits (show S < 64 by omega), bd1_s, h6, e_eq (show cntB S < 2 ^ 31 by omega) (show N < 2 ^ 31 by omega), s0, s1]
    have fin : ∀ acc, acc = aI N S → ∃ Tn, lX11_layRests_9 n (u2 Tm 14 S (nI (toM (fm (aC (ha Th) (aL o w) (aT (ha Th) (aL o w) N 64) S) N 0 acc)))) o w (nI S + -nI 1) = some (nI (toM (aT (ha Th) (aL o w) N 64 0)), Tn) ∧ FO 0 Tm Tn ∧ ∀ S', S' < 2 ^ N → Tn 14 S' = nI (toM (aT (ha Th) (aL o w) N 64 S')) := by
      intro acc hacc
      have e' := aT_e (h := ha Th) (al := aL o w) hN (show S < 64 by omega)
      rw [hacc, ← e']
      have tabs : ∀ S', S ≤ S' → S' < 2 ^ N → u2 Tm 14 S (nI (toM (aT (ha Th) (aL o w) N 64 S))) 14 S' = nI (toM (aT (ha Th) (aL o w) N 64 S')) := by
        intro S' h1 h3
        rw [u2_ap]
        by_cases g : S' = S
        · rw [if_pos ⟨rfl, g⟩, g]
        · rw [if_neg (fun e => g e.2)]
          exact hT S' (by omega) h3
      by_cases c : S = 0
      · subst c
        obtain ⟨n, rfl, hn⟩ := gt_s (show 0 < n by omega)
        rw [sX11_layRests_9]
        unfold fX11_layRests_9
        have q1 : (nI 0 + -nI 1 < nI 0) = True := eq_true (by decide)
        simp only [lit, q1, if_true]
        rw [cl_nI (show 0 < 2 ^ 31 by omega), u2_same]
        exact ⟨_, rfl, FO_u (Or.inr rfl), fun S' hS' => tabs S' (by omega) hS'⟩
      · have e1 : nI S + -nI 1 = nI (S - 1) := by rw [← Int32.sub_eq_add_neg, e_sub (by omega)]
        rw [e1]
        obtain ⟨Tn, e, f, t⟩ := ih (S - 1) n (u2 Tm 14 S (nI (toM (aT (ha Th) (aL o w) N 64 S)))) (by omega) (HR_u14 h _ _) (by rw [u2_ap, if_neg (by omega)]; exact h6) (by omega) (by omega) (fun S' h1 h3 => tabs S' (by omega) h3)
        exact ⟨Tn, e, FO_t (FO_u (Or.inr rfl)) f, t⟩
    by_cases c : cntB S = N
    · rw [if_pos c]
      exact fin 0 (by unfold aI; rw [if_pos (hc.2.mp c)])
    · rw [if_neg c]
      exact fin 1000000 (by unfold aI; rw [if_neg (fun e => c (hc.2.mpr e))])
end AN3
