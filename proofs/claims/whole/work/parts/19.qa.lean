/-! which part of the reference's object a cell belongs to: 1 told, 2 days, 3 kept, 4 text, 5 harms, 6 likes, 7 rows, 0 scratch -/
def co (c i : Nat) : Nat := if c = 0 then (if i = 3 then 4 else if i = 6 then 1 else if i = 7 then 1 else if i = 11 then 1 else if i = 12 then 1 else if i = 29 then 7 else 0) else if c = 1 then (if i < 87 then 2 else 3) else if c = 2 then 3 else if c = 3 then 4 else if c = 5 then 1 else if c = 6 then 1 else if c = 7 then 1 else if c = 13 then 5 else if c = 15 then 6 else if c = 17 then 7 else 0
def FO (n : Nat) (Tm Ta : Gp) : Prop := ∀ c i, co c i ≠ 0 → co c i ≠ n → Ta c i = Tm c i
theorem FO_r (n : Nat) (Tm : Gp) : FO n Tm Tm := fun _ _ _ _ => rfl
theorem FO_t {n : Nat} {A B C : Gp} (h : FO n A B) (g : FO n B C) : FO n A C := fun c i e f => (g c i e f).trans (h c i e f)
theorem FO_w {n : Nat} {A B : Gp} (h : FO 0 A B) : FO n A B := fun c i e _ => h c i e e
theorem FO_u {n : Nat} {A : Gp} {c i : Nat} {v : Int32} (h : co c i = n ∨ co c i = 0) : FO n A (u2 A c i v) := fun d j e f => by
  rw [u2_ap]
  by_cases g : d = c ∧ j = i
  · rw [g.1, g.2] at e f
    rcases h with h | h
    · exact absurd h f
    · exact absurd h e
  · rw [if_neg g]
theorem FR_FO {A B : Gp} (h : FR A B) : FO 2 A B := fun c i _ f => h c i (by
  by_cases g : c = 1
  · right
    apply Nat.le_of_not_lt
    intro k
    apply f
    rw [g]
    unfold co
    rw [if_neg (by omega), if_pos rfl, if_pos k]
  · left; exact g)
def EqO (n : Nat) (Tm Ta : Gp) : Prop := ∀ c i, co c i = n → Ta c i = Tm c i
theorem FO_E {n m : Nat} {A B : Gp} (h : FO n A B) (hm : m ≠ 0) (hn : m ≠ n) : EqO m A B := fun c i e => h c i (by omega) (by omega)
theorem RT_E {Tm Ta : Gp} {τ : TD} (h : RT Tm τ) (f : EqO 1 Tm Ta) : RT Ta τ := by
  obtain ⟨hw, h0, h1, h2, h3, hk, hc, hb, hwo, hm⟩ := h
  refine ⟨hw, ?_, ?_, ?_, ?_, ?_, ?_, ?_, ?_, ?_⟩
  · rw [f _ _ rfl]; exact h0
  · rw [f _ _ rfl]; exact h1
  · rw [f _ _ rfl]; exact h2
  · rw [f _ _ rfl]; exact h3
  · intro i hi; rw [f _ _ rfl]; exact hk i hi
  · intro w hi; rw [f _ _ rfl]; exact hc w hi
  · intro v w hv hi; rw [f _ _ rfl]; exact hb v w hv hi
  · intro w hi; rw [f _ _ rfl]; exact hwo w hi
  · intro i hi; rw [f _ _ rfl]; exact hm i hi
theorem MM_i {Tm Ta : Gp} {off : Nat} {δ : DA} {ν : VV} (h : M0 Tm off δ) (g : M1 Tm off ν) (f : ∀ j, j < 87 → Ta 1 (off + j) = Tm 1 (off + j)) : M0 Ta off δ ∧ M1 Ta off ν := by
  refine ⟨⟨h.1, ?_, fun i hi => ?_, fun i hi => ?_⟩, fun i hi => ?_, fun i hi => ?_, fun i hi => ?_⟩
  · have := f 0 (by omega); rw [Nat.add_zero] at this; rw [this]; exact h.2.1
  · rw [show off + 27 + i = off + (27 + i) by omega, f _ (by omega), ← Nat.add_assoc]; exact h.2.2.1 i hi
  · rw [show off + 39 + i = off + (39 + i) by omega, f _ (by omega), ← Nat.add_assoc]; exact h.2.2.2 i hi
  · rw [show off + 1 + i = off + (1 + i) by omega, f _ (by omega), ← Nat.add_assoc]; exact g.1 i hi
  · rw [show off + 3 + i = off + (3 + i) by omega, f _ (by omega), ← Nat.add_assoc]; exact g.2.1 i hi
  · rw [show off + 15 + i = off + (15 + i) by omega, f _ (by omega), ← Nat.add_assoc]; exact g.2.2 i hi
/-- the day and what came of it, on both sides -/
def DR (d : Nat) (Td Tm : Gp) : Prop := ∃ δ ν, C0 Td δ ∧ C1 Td ν ∧ M0 Tm 0 δ ∧ M1 Tm 0 ν ∧ dT δ ≤ d
theorem DR_E {d : Nat} {Td Tm Ta : Gp} (h : DR d Td Tm) (f : EqO 2 Tm Ta) : DR d Td Ta := by
  obtain ⟨δ, ν, a, b, m0, m1, hd⟩ := h
  have := MM_i m0 m1 (fun j hj => f 1 (0 + j) (by unfold co; rw [if_neg (by omega), if_pos rfl, if_pos (by omega)]))
  exact ⟨δ, ν, a, b, this.1, this.2, hd⟩
theorem w_2 (x : Int32) : fX10_within x (nI 0) (nI 1) = some (bI (ok x 2)) := within_ok (n := 2) (by omega) (by omega)
theorem w_6 (x : Int32) : fX10_within x (nI 0) (nI 5) = some (bI (ok x 6)) := within_ok (n := 6) (by omega) (by omega)
theorem w_7 (x : Int32) : fX10_within x (nI 0) (nI 6) = some (bI (ok x 7)) := within_ok (n := 7) (by omega) (by omega)
theorem w_10 (x : Int32) : fX10_within x (nI 0) (nI 9) = some (bI (ok x 10)) := within_ok (n := 10) (by omega) (by omega)
theorem w_100 (x : Int32) : fX10_within x (nI 0) (nI 99) = some (bI (ok x 100)) := within_ok (n := 100) (by omega) (by omega)
theorem n_2 (x : Int32) : fX11_in x.toInt64 0 1 = some (bI (ok x 2)) := in_ok (by decide)
theorem n_4 (x : Int32) : fX11_in x.toInt64 0 3 = some (bI (ok x 4)) := in_ok (by decide)
theorem n_6 (x : Int32) : fX11_in x.toInt64 0 5 = some (bI (ok x 6)) := in_ok (by decide)
theorem n_7 (x : Int32) : fX11_in x.toInt64 0 6 = some (bI (ok x 7)) := in_ok (by decide)
theorem n_10 (x : Int32) : fX11_in x.toInt64 0 9 = some (bI (ok x 10)) := in_ok (by decide)
theorem n_100 (x : Int32) : fX11_in x.toInt64 0 99 = some (bI (ok x 100)) := in_ok (by decide)
theorem ok_ne {x : Int32} {n j : Nat} (h : ok x n = false) (hj : j < n) (hn : n < 2 ^ 31) : (x = nI j) = False := by
  apply eq_false
  intro e
  rw [e, ok_nI hj hn] at h
  cases h
section API1
variable {Tt Td Tm : Gp} {τ : TD}
theorem c_isPerson (Te : Gp) (ht : CT Tt τ) (x y : Int32) : fX10_isPerson Te Tt x y = some (bI (ok x 2 && ok y (tN τ))) := by
  unfold fX10_isPerson
  simp only [lit, c_isValley, c_hasPair ht, bd1_s, bI_0]
  cases ok x 2 <;> cases ok y (tN τ) <;> simp [bI]
theorem c_isSlot (Te : Gp) (ht : CT Tt τ) (x y z : Int32) : fX10_isSlot Te Tt x y z = some (bI (ok x 2 && ok y (tN τ) && ok z (tH τ))) := by
  unfold fX10_isSlot
  simp only [lit, c_isPerson Te ht, c_hasHour ht, bd1_s, bI_0]
  cases (ok x 2 && ok y (tN τ)) <;> cases ok z (tH τ) <;> simp [bI]
theorem r_work (Te : Gp) (ht : CT Tt τ) (hm : RT Tm τ) (x y : Int32) : ∃ r, fX10_work Te Tt x y = some r ∧ fX11_work Tm x y = some r := by
  unfold fX10_work fX11_work
  simp only [n_6, n_4, lit, w_6, bd1_s, bI_0]
  cases hx : ok x 6
  · exact ⟨_, by simp; rfl, by simp⟩
  · obtain ⟨w, hw, rfl⟩ := ok_ex hx (by omega)
    rw [if_neg (by simp), if_neg (by simp)]
    obtain ⟨-, -, -, -, -, -, mc, mb, mw, -⟩ := hm
    cases hy : ok y 4
    · have e0 := ok_ne hy (show 0 < 4 by omega) (by omega)
      have e1 := ok_ne hy (show 1 < 4 by omega) (by omega)
      have e2 := ok_ne hy (show 2 < 4 by omega) (by omega)
      have e3 := ok_ne hy (show 3 < 4 by omega) (by omega)
      simp only [e0, e1, e2, e3, if_false, if_true]
      exact ⟨_, rfl, rfl⟩
    · obtain ⟨j, hj, rfl⟩ := ok_ex hy (by omega)
      rw [if_neg (by simp)]
      simp only [e_mul, e_add]
      have q : (ix (nI (4 * w + j)) 24) = True := by rw [e_ix (by omega)]; exact eq_true (by omega)
      simp only [q, if_true]
      rw [cl_nI (show 4 * w + j < 2 ^ 31 by omega)]
      simp (disch := omega) only [e_eq]
      have k0 := c_classOf ht (show w ≤ 5 by omega)
      have k1 := c_breadOf ht (show 0 < 2 by omega) (show w ≤ 5 by omega)
      have k2 := c_breadOf ht (show 1 < 2 by omega) (show w ≤ 5 by omega)
      have k3 := c_worthOf ht (show w ≤ 5 by omega)
      have hj4 : j = 0 ∨ j = 1 ∨ j = 2 ∨ j = 3 := by omega
      rcases hj4 with rfl | rfl | rfl | rfl
      · simp [k0, bd1_s]; exact mc w hw
      · simp [k1, bd1_s]; exact mb 0 w (by omega) hw
      · simp [k2, bd1_s]; exact mb 1 w (by omega) hw
      · simp [k3, bd1_s]; exact mw w hw
theorem r_meant (Te : Gp) (ht : CT Tt τ) (hm : RT Tm τ) (x1 x2 x3 x4 : Int32) : ∃ r, fX10_meant Te Tt x1 x2 x3 x4 = some r ∧ fX11_meant Tm x1 x2 x3 x4 = some r := by
  have hN := ht.1.1
  have hH := ht.1.2.1
  unfold fX10_meant fX11_meant
  simp only [n_2, lit, w_2, c_isSlot Te ht, m_isValley, m_isPair hm, m_isHour hm, bd1_s, bI_0]
  cases h2 : ok x2 2
  · exact ⟨_, by simp; rfl, by simp⟩
  cases h3 : ok x3 (tN τ)
  · exact ⟨_, by simp; rfl, by simp⟩
  cases h4 : ok x4 (tH τ)
  · exact ⟨_, by simp; rfl, by simp⟩
  cases h1 : ok x1 2
  · exact ⟨_, by simp; rfl, by simp⟩
  obtain ⟨v, hv, rfl⟩ := ok_ex h2 (by omega)
  obtain ⟨p, hp, rfl⟩ := ok_ex h3 (by omega)
  obtain ⟨hr, hh, rfl⟩ := ok_ex h4 (by omega)
  obtain ⟨o, ho, rfl⟩ := ok_ex h1 (by omega)
  have k := c_meantOn ht ho hv (show p < 6 by omega) (show hr < 4 by omega)
  refine ⟨nI (mn τ (48 * o + 24 * v + 4 * p + hr)), by simp [k, bd1_s], ?_⟩
  obtain ⟨-, -, -, -, -, -, -, -, -, mm⟩ := hm
  unfold fX11_meantAt
  simp only [lit, e_add, e_mul, bd1_s]
  have q : (ix (nI (48 * o + 24 * v + 4 * p + hr)) 96) = True := by rw [e_ix (by omega)]; exact eq_true (by omega)
  simp only [q, if_true]
  rw [cl_nI (show 48 * o + 24 * v + 4 * p + hr < 2 ^ 31 by omega), mm _ (by omega)]
  simp
theorem r_days (Te : Gp) (ht : CT Tt τ) (hm : RT Tm τ) {d : Nat} (h : DR d Td Tm) (hd : d + 99 < 2 ^ 20) (x : Int32) : ∃ r Ta Tb, fX10_days Te Td Tt x = some (r, Ta) ∧ fX11_days Tm x = some (r, Tb) ∧ FO 2 Tm Tb ∧ DR (d + 99) Ta Tb := by
  obtain ⟨δ, ν, a, b, m0, m1, hdd⟩ := h
  unfold fX10_days fX11_days
  rw [within_eq, in_eq]
  rw [show (1 : Int64).toInt = 1 from by decide, show (99 : Int64).toInt = 99 from by decide, show (1 : Int32).toInt = 1 from by decide, show (99 : Int32).toInt = 99 from by decide]
  simp only [lit, bd1_s, bI_0]
  cases hx : decide (1 ≤ x.toInt ∧ x.toInt ≤ 99)
  · exact ⟨_, Td, Tm, by simp; rfl, by simp, FO_r _ _, δ, ν, a, b, m0, m1, by omega⟩
  · have h1 := of_decide_eq_true hx
    obtain ⟨j, hj, rfl⟩ := ok_ex (x := x) (n := 100) (decide_eq_true ⟨by omega, by omega⟩) (by omega)
    rw [nI_toInt (by omega)] at h1
    obtain ⟨Ta, e1, a1, b1⟩ := c_days Te ht j (by omega) j 0 fu Td δ ν (by omega) (fu_gt (by omega)) (by omega) a b
    obtain ⟨Tb, e2, f2, a2, b2⟩ := m_days j (by omega) j 0 fu Tm δ ν hm (by omega) (fu_gt (by omega)) (by omega) m0 m1
    refine ⟨_, Ta, Tb, by simp; exact e1, by simp; exact e2, FR_FO f2, _, _, a1, b1, a2, b2, ?_⟩
    rw [daysS_dT]
    show dT δ + j ≤ _
    omega
end API1
