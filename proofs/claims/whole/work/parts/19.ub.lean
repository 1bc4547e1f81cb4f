theorem if_le {α : Type} {a b : Nat} (ha : a < 2 ^ 31) (hb : b < 2 ^ 31) (x y : α) : (if nI a ≤ nI b then x else y) = if a ≤ b then x else y := by
  simp only [e_le ha hb]
theorem if_lt {α : Type} {a b : Nat} (ha : a < 2 ^ 31) (hb : b < 2 ^ 31) (x y : α) : (if nI a < nI b then x else y) = if a < b then x else y := by
  simp only [e_lt ha hb]
theorem if_eqn {α : Type} {a b : Nat} (ha : a < 2 ^ 31) (hb : b < 2 ^ 31) (x y : α) : (if nI a = nI b then x else y) = if a = b then x else y := by
  simp only [e_eq ha hb]
section FOURS5
variable {Tg Tm : Gp}
/-- what one pair of the reference's offers -/
def gF (Tg : Gp) (S i j : Nat) : Nat := if i < j ∧ hb S i = true ∧ hb S j = true then EE (pT (w4 Tg) 64 (rmB (rmB S i) j)) + (100 * min (lk Tg 0 i j) (lk Tg 1 i j) + 1) else 0
theorem gF_mx (h : LR Tg Tm) {S : Nat} (hS : S < 64) : (mx6 fun i => mx6 fun j => gF Tg S i j) = EE (pT (w4 Tg) 64 S) := by
  have e := pT_any (w4_c Tg) S hS
  simp only at e
  rw [e, EE_mx6]
  refine mx6_c (fun i hi => ?_)
  rw [EE_mx6]
  refine mx6_c (fun j hj => ?_)
  unfold gF
  by_cases c : i < j ∧ hb S i = true ∧ hb S j = true
  · rw [if_pos c, if_pos c]
    have s1 := rm_lt hS hi
    have s2 := rm_lt s1.1 hj
    have bj : hb (rmB S i) j = true := by rw [hb_rm hS hi hj, c.2.2]; simp; omega
    have c1 := cnt_rm hS hi c.2.1
    have c2 := cnt_rm s1.1 hj bj
    have c3 := (b_lowlt ⟨S, hS⟩).2
    simp only at c3
    have c4 := pT_cnt (w4_m Tg) _ s2.1
    have : w4 Tg i j = 4 * min (lk Tg 0 i j) (lk Tg 1 i j) + 1 := by unfold w4; rw [if_neg (by omega)]
    rw [this]
    unfold EE
    omega
  · rw [if_neg c, if_neg c]; rfl
theorem gF_le (h : LR Tg Tm) {S i j : Nat} (hS : S < 64) (hi : i < 6) (hj : j < 6) : gF Tg S i j ≤ 2000000 := by
  have e := gF_mx h hS
  have a := pT_le (w4_le h) 64 S hS
  have b := Nat.le_trans (mx6_ge (fun j => gF Tg S i j) hj) (mx6_ge (fun i => mx6 fun j => gF Tg S i j) hi)
  rw [e] at b
  unfold EE at b
  omega
theorem m_125 (rec15 : Gp → Int32 → Int32 → Option (Int32 × Gp)) (rec30 : Gp → Int32 → Int32 → Int32 → Int32 → Option (Int32 × Gp)) (x1 x2 x5 x6 y : Int32) {acc : Nat} (k : Nat) (ha : acc < 2 ^ 30) : fX11_fours_125 rec15 rec30 Tm x1 x2 (nI acc) (nI k) x5 x6 (nI 0) y = rec30 Tm x1 x2 (nI acc) (nI (k + 1)) := by
  unfold fX11_fours_125 fX11_fours_164
  have q : (nI 0 ≤ nI acc) = True := by rw [e_le (by omega) (by omega)]; exact eq_true (by omega)
  simp only [lit, if_true, q, e_add]
theorem m_82 (rec15 : Gp → Int32 → Int32 → Option (Int32 × Gp)) (rec30 : Gp → Int32 → Int32 → Int32 → Int32 → Option (Int32 × Gp)) (x1 x2 x5 x6 : Int32) {acc k : Nat} (ha : acc < 2 ^ 30) (hk : k < 36) : fX11_fours_82 rec15 rec30 Tm x1 x2 (nI acc) (nI k) x5 x6 = rec30 Tm x1 x2 (nI acc) (nI (k + 1)) := by
  unfold fX11_fours_82 fX11_fours_83
  have q1 : (ix (nI k) 72) = True := by rw [e_ix (by omega)]; exact eq_true (by omega)
  have q2 : (ix (nI (36 + k)) 72) = True := by rw [e_ix (by omega)]; exact eq_true (by omega)
  simp only [lit, e_add, q1, q2, if_true, m_125 rec15 rec30 x1 x2 x5 x6 _ k ha]
  split <;> rfl
theorem m_83 (h : LR Tg Tm) (rec15 : Gp → Int32 → Int32 → Option (Int32 × Gp)) (rec30 : Gp → Int32 → Int32 → Int32 → Int32 → Option (Int32 × Gp)) (x1 : Int32) {S acc i j : Nat} (ha : acc < 2 ^ 30) (hi : i < 6) (hj : j < 6) (hS : S < 64) (c : i < j ∧ hb S i = true ∧ hb S j = true) (hT : ∀ S', S' < S → Tm 16 S' = nI (EE (pT (w4 Tg) 64 S'))) : fX11_fours_83 rec15 rec30 Tm x1 (nI S) (nI acc) (nI (6 * i + j)) (nI i) (nI j) (nI 1) = rec30 Tm x1 (nI S) (nI (max acc (gF Tg S i j))) (nI (6 * i + j + 1)) := by
  have g := gF_le h hS hi hj
  have s1 := rm_lt hS hi
  have l1 := rm_ltS hS hi c.2.1
  have s2 := rm_lt s1.1 hj
  have e1 := b_rm ⟨S, hS⟩ ⟨i, hi⟩
  have e2 := b_rm ⟨rmB S i, s1.1⟩ ⟨j, hj⟩
  simp only at e1 e2
  have k0 := lk_e h (show 0 < 2 by omega) hi hj (by omega)
  have k1 := lk_e h (show 1 < 2 by omega) hi hj (by omega)
  have f0 : Tm 15 (6 * i + j) = nI (lk Tg 0 i j) := by rw [← k0.2.1]; congr 1; omega
  have f1 : Tm 15 (36 + (6 * i + j)) = nI (lk Tg 1 i j) := by rw [← k1.2.1]; congr 1; omega
  unfold fX11_fours_83 fX11_fours_125 fX11_fours_164
  have q1 : (ix (nI (6 * i + j)) 72) = True := by rw [e_ix (by omega)]; exact eq_true (by omega)
  have q2 : (ix (nI (36 + (6 * i + j))) 72) = True := by rw [e_ix (by omega)]; exact eq_true (by omega)
  have q3 : (ix (nI (rmB (rmB S i) j)) 64) = True := by rw [e_ix (by omega)]; exact eq_true s2.1
  have q4 : (nI 1 = nI 0) = False := by rw [e_eq (by omega) (by omega)]; exact eq_false (by omega)
  have z1 := cl_nI (show 6 * i + j < 2 ^ 31 by omega)
  have z2 := cl_nI (show 36 + (6 * i + j) < 2 ^ 31 by omega)
  have z3 := cl_nI (show rmB (rmB S i) j < 2 ^ 31 by omega)
  simp only [m1_eq]
  simp only [lit, e_add, q1, q2, e1, e2, q3, q4, z1, z2, z3, f0, f1, if_true, if_false, hT _ (show rmB (rmB S i) j < S by omega), e_mul, e_le (show lk Tg 1 i j < 2 ^ 31 by omega) (show lk Tg 0 i j < 2 ^ 31 by omega)]
  have gd : gF Tg S i j = EE (pT (w4 Tg) 64 (rmB (rmB S i) j)) + (100 * min (lk Tg 0 i j) (lk Tg 1 i j) + 1) := by unfold gF; rw [if_pos c]
  rw [gd] at g ⊢
  by_cases o : lk Tg 1 i j ≤ lk Tg 0 i j
  · rw [if_pos o]
    rw [Nat.min_eq_right o] at g ⊢
    rw [← Nat.add_assoc] at g ⊢
    rw [if_le (by omega) (by omega)]
    by_cases o2 : EE (pT (w4 Tg) 64 (rmB (rmB S i) j)) + 100 * lk Tg 1 i j + 1 ≤ acc
    · rw [if_pos o2, Nat.max_eq_left o2]
    · rw [if_neg o2, Nat.max_eq_right (by omega)]
  · rw [if_neg o]
    rw [Nat.min_eq_left (by omega)] at g ⊢
    rw [← Nat.add_assoc] at g ⊢
    rw [if_le (by omega) (by omega)]
    by_cases o2 : EE (pT (w4 Tg) 64 (rmB (rmB S i) j)) + 100 * lk Tg 0 i j + 1 ≤ acc
    · rw [if_pos o2, Nat.max_eq_left o2]
    · rw [if_neg o2, Nat.max_eq_right (by omega)]
theorem mF_30 (h : LR Tg Tm) (rec15 : Gp → Int32 → Int32 → Option (Int32 × Gp)) (x1 : Int32) {S : Nat} (hS : S < 64) (hT : ∀ S', S' < S → Tm 16 S' = nI (EE (pT (w4 Tg) 64 S'))) : ∀ m k n acc, k + m = 36 → m < n → acc ≤ 2000000 → lX11_fours_30 rec15 n Tm x1 (nI S) (nI acc) (nI k) = rec15 (u2 Tm 16 S (nI (fo (fun k => gF Tg S (k / 6) (k % 6)) m k acc))) x1 (nI (S + 1)) := by
  intro m
  induction m with
  | zero =>
    intro k n acc hk hn ha
    obtain ⟨n, rfl, -⟩ := gt_s hn
    rw [sX11_fours_30]
    unfold fX11_fours_30
    have q0 : (nI 36 ≤ nI k) = True := by rw [e_le (by omega) (by omega)]; exact eq_true (by omega)
    have q2 : (ix (nI S) 64) = True := by rw [e_ix (by omega)]; exact eq_true (by omega)
    simp only [lit, q0, q2, if_true, e_add]
    rw [cl_nI (show S < 2 ^ 31 by omega)]
    rfl
  | succ m ih =>
    intro k n acc hk hn ha
    obtain ⟨n, rfl, hn⟩ := gt_s hn
    rw [sX11_fours_30]
    have hi : k / 6 < 6 := by omega
    have hj : k % 6 < 6 := by omega
    have gl := gF_le h hS hi hj
    have key : fX11_fours_30 rec15 (lX11_fours_30 rec15 n) Tm x1 (nI S) (nI acc) (nI k) = lX11_fours_30 rec15 n Tm x1 (nI S) (nI (max acc (gF Tg S (k / 6) (k % 6)))) (nI (k + 1)) := by
      unfold fX11_fours_30
      have q0 : (nI 36 ≤ nI k) = False := by rw [e_le (by omega) (by omega)]; exact eq_false (by omega)
      have b1 := b_has ⟨S, hS⟩ ⟨k / 6, hi⟩
      have b2 := b_has ⟨S, hS⟩ ⟨k % 6, hj⟩
      simp only at b1 b2
      simp only [lit, q0, if_false, irm_nI (show k < 2 ^ 31 by omega) (show 0 < 6 by omega) (show 6 < 2 ^ 31 by omega), div_nI (show k < 2 ^ 31 by omega) (show 0 < 6 by omega) (show 6 < 2 ^ 31 by omega), e_le (show k % 6 < 2 ^ 31 by omega) (show k / 6 < 2 ^ 31 by omega), b1, b2, bI_1, m_82 rec15 (lX11_fours_30 rec15 n) x1 (nI S) _ _ (show acc < 2 ^ 30 by omega) (show k < 36 by omega)]
      by_cases c : k / 6 < k % 6 ∧ hb S (k / 6) = true ∧ hb S (k % 6) = true
      · rw [if_neg (by omega), if_pos c.2.1, if_pos c.2.2]
        have := m_83 h rec15 (lX11_fours_30 rec15 n) x1 (show acc < 2 ^ 30 by omega) hi hj hS c hT
        rw [show 6 * (k / 6) + k % 6 = k by omega] at this
        exact this
      · have z : gF Tg S (k / 6) (k % 6) = 0 := by unfold gF; rw [if_neg c]
        rw [z, Nat.max_eq_left (Nat.zero_le _)]
        by_cases c1 : k % 6 ≤ k / 6
        · rw [if_pos c1]
        · rw [if_neg c1]
          by_cases c2 : hb S (k / 6) = true
          · rw [if_pos c2, if_neg (fun c3 => c ⟨by omega, c2, c3⟩)]
          · rw [if_neg c2]
    rw [key]
    exact ih (k + 1) n _ (by omega) (by omega) (by omega)
theorem LR_u16 (h : LR Tg Tm) (S : Nat) (v : Int32) : LR Tg (u2 Tm 16 S v) := by
  have : u2 Tm 16 S v 15 = Tm 15 := u2_c (by omega)
  unfold LR at h ⊢
  rw [this]
  exact h
theorem mF_15 {N : Nat} (hN : N ≤ 6) (h1N : 2 ^ N ≤ 64) (x1 : Int32) : ∀ k S n Tm, S + k = 2 ^ N → k < n → LR Tg Tm → Tm 0 6 = nI N → (∀ S', S' < S → Tm 16 S' = nI (EE (pT (w4 Tg) 64 S'))) → ∃ Tn, lX11_fours_15 n Tm x1 (nI S) = some (if x1 = nI 0 then nI (EE (pT (w4 Tg) 64 (2 ^ N - 1)) / 100) else nI (EE (pT (w4 Tg) 64 (2 ^ N - 1)) % 100), Tn) ∧ FO 0 Tm Tn := by
  intro k
  induction k with
  | zero =>
    intro S n Tm hk hn h h6 hT
    obtain ⟨n, rfl, -⟩ := gt_s hn
    rw [sX11_fours_15]
    unfold fX11_fours_15
    have p1 : 1 ≤ 2 ^ N := Nat.one_le_two_pow
    have b := b_pow ⟨N, by omega⟩
    simp only at b
    rw [h6]
    have q0 : (nI (2 ^ N) ≤ nI S) = True := by rw [e_le (by omega) (by omega)]; exact eq_true (by omega)
    have q2 : (ix (nI (2 ^ N - 1)) 64) = True := by rw [e_ix (by omega)]; exact eq_true (by omega)
    have z := cl_nI (show 2 ^ N - 1 < 2 ^ 31 by omega)
    have hT1 := hT (2 ^ N - 1) (by omega)
    have le := pT_le (w4_le h) 64 (2 ^ N - 1) (by omega)
    have le2 : EE (pT (w4 Tg) 64 (2 ^ N - 1)) < 2 ^ 31 := by unfold EE; omega
    simp only [lit, b, q0, e_sub p1, q2, z, hT1, if_true, irm_nI le2 (show 0 < 100 by omega) (show 100 < 2 ^ 31 by omega), div_nI le2 (show 0 < 100 by omega) (show 100 < 2 ^ 31 by omega)]
    refine ⟨Tm, ?_, FO_r _ _⟩
    split <;> rfl
  | succ k ih =>
    intro S n Tm hk hn h h6 hT
    obtain ⟨n, rfl, hn⟩ := gt_s hn
    rw [sX11_fours_15]
    unfold fX11_fours_15
    have b := b_pow ⟨N, by omega⟩
    simp only at b
    rw [h6]
    have q0 : (nI (2 ^ N) ≤ nI S) = False := by rw [e_le (by omega) (by omega)]; exact eq_false (by omega)
    have hS : S < 64 := by omega
    simp only [lit, b, q0, if_false]
    rw [mF_30 h (lX11_fours_15 n) x1 hS hT 36 0 fu 0 (by omega) (fu_gt (by omega)) (by omega), fo_36 (gF Tg S), gF_mx h hS]
    obtain ⟨Tn, e, f⟩ := ih (S + 1) n (u2 Tm 16 S (nI (EE (pT (w4 Tg) 64 S)))) (by omega) (by omega) (LR_u16 h _ _) (by rw [u2_ap, if_neg (by omega)]; exact h6) (by
      intro S' hS'
      rw [u2_ap]
      by_cases g : S' = S
      · rw [if_pos ⟨rfl, g⟩, g]
      · rw [if_neg (fun e => g e.2)]
        exact hT S' (by omega))
    exact ⟨Tn, e, FO_t (FO_u (Or.inr rfl)) f⟩
theorem r_fours {Tt : Gp} {τ : TD} (Te : Gp) (ht : CT Tt τ) (hm : RT Tm τ) (h : LR Tg Tm) (x : Int32) : ∃ r Ta Tn, fX10_fours Te Tt Tg x = some (r, Ta) ∧ fX11_fours Tm x = some (r, Tn) ∧ FO 0 Tm Tn ∧ LR Ta Tn := by
  have hN := ht.1.1
  unfold fX10_fours fX11_fours
  simp only [lit, n_2, bd1_s, bI_0]
  cases hx : ok x 2
  · have e0 := ok_ne hx (show 0 < 2 by omega) (by omega)
    have e1 := ok_ne hx (show 1 < 2 by omega) (by omega)
    simp only [e0, e1, if_false, if_true]
    exact ⟨_, Tg, Tm, rfl, rfl, FO_r _ _, h⟩
  · obtain ⟨j, hj, rfl⟩ := ok_ex hx (by omega)
    have p7 : ∀ i : Fin 7, 1 ≤ 2 ^ i.1 ∧ 2 ^ i.1 ≤ 64 ∧ imn (nI (2 ^ i.1)) (nI 64) - nI 1 = nI (2 ^ i.1 - 1) := by decide +kernel
    obtain ⟨p1, p2, p3⟩ := p7 ⟨tN τ, by omega⟩
    have b := b_pow ⟨tN τ, by omega⟩
    simp only at b p1 p2 p3
    obtain ⟨-, t0, -⟩ := ht
    obtain ⟨-, m0, -⟩ := hm
    obtain ⟨Ta, e1, f1⟩ := c_20 (show tN τ ≤ 6 by omega) p2 (2 ^ tN τ - 1) 1 fu (u2 Tg 2 0 (nI 0)) (by omega) (by omega) (fu_gt (by omega)) (LR_u h _ _) (by
      intro S' hS'
      rw [show S' = 0 by omega, u2_same, pT_0])
    obtain ⟨Tn, e2, f2⟩ := mF_15 (show tN τ ≤ 6 by omega) p2 (nI j) (2 ^ tN τ) 0 fu Tm (by omega) (fu_gt (by omega)) h m0 (fun S' hS' => by omega)
    rw [w4_u] at e1
    have le := pT_le (w4_le h) 64 (2 ^ tN τ - 1) (by omega)
    have ct := pT_cnt (w4_m Tg) (2 ^ tN τ - 1) (by omega)
    have c3 := (b_lowlt ⟨2 ^ tN τ - 1, by omega⟩).2
    simp only at c3
    have go : fX2_greatestOf Tg (Tt 0 0) = some (nI (pT (w4 Tg) 64 (2 ^ tN τ - 1)), Ta) := by
      unfold fX2_greatestOf
      rw [t0]
      simp only [lit, b, p3]
      rw [cl_nI (show 0 < 2 ^ 31 by omega)]
      exact e1
    unfold fX2_greatestSum fX2_mostFours
    simp only [go, bd2_s, lit]
    rw [irm_nI (by omega) (by omega) (by omega), div_nI (by omega) (by omega) (by omega)]
    have L : LR Ta Tn := LR_E f1 (FO_E f2 (by decide) (by decide))
    have j2 : j = 0 ∨ j = 1 := by omega
    rcases j2 with rfl | rfl
    · rw [if_pos rfl] at e2 ⊢
      refine ⟨_, Ta, Tn, rfl, ?_, f2, L⟩
      rw [if_neg (by simp), e2]
      congr 3
      unfold EE
      omega
    · rw [if_neg (by rw [e_eq (by omega) (by omega)]; omega)] at e2 ⊢
      rw [if_pos rfl]
      refine ⟨_, Ta, Tn, rfl, ?_, f2, L⟩
      rw [if_neg (by simp), e2]
      congr 3
      unfold EE
      omega
end FOURS5
