def AP (Tm : Gp) (k : Nat) (τ τ' : TD) : Prop :=
  (∃ a b, (1 ≤ a ∧ a ≤ 6) ∧ (1 ≤ b ∧ b ≤ 4) ∧ Tm 4 (6 * k) = nI 0 ∧ Tm 4 (6 * k + 1) = nI a ∧ Tm 4 (6 * k + 2) = nI b ∧ τ' = sTr τ a b) ∨
  (∃ (w c : Nat) (c0 : Bool) (b0 : Nat) (c1 : Bool) (b1 x : Nat), w < 5 ∧ c < 4 ∧ b0 ≤ 20 ∧ b1 ≤ 20 ∧ x ≤ 20 ∧ Tm 4 (6 * k) = nI 1 ∧ Tm 4 (6 * k + 1) = nI w ∧ Tm 4 (6 * k + 2) = nI c ∧ Tm 4 (6 * k + 3) = bx c0 b0 ∧ Tm 4 (6 * k + 4) = bx c1 b1 ∧ Tm 4 (6 * k + 5) = nI x ∧ τ' = sWk τ w c c0 b0 c1 b1 x) ∨
  (∃ p j, p < tN τ ∧ j < 4 ∧ Tm 4 (6 * k) = nI 2 ∧ Tm 4 (6 * k + 1) = nI p ∧ Tm 4 (6 * k + 2) = nI j ∧ τ' = sKd τ p j) ∨
  (∃ o v p h w, o < 2 ∧ v < 2 ∧ p < tN τ ∧ h < tH τ ∧ w ≤ 5 ∧ Tm 4 (6 * k) = nI 3 ∧ Tm 4 (6 * k + 1) = nI o ∧ Tm 4 (6 * k + 2) = nI v ∧ Tm 4 (6 * k + 3) = nI p ∧ Tm 4 (6 * k + 4) = nI h ∧ Tm 4 (6 * k + 5) = nI w ∧ τ' = sMn τ (48 * o + ((v * 6 + p) * 4 + h)) w) ∨
  (∃ e, e ≤ 20 ∧ Tm 4 (6 * k) = nI 4 ∧ Tm 4 (6 * k + 1) = nI e ∧ τ' = sEa τ e) ∨
  (∃ f, f ≤ 99 ∧ Tm 4 (6 * k) = nI 5 ∧ Tm 4 (6 * k + 1) = nI f ∧ τ' = sFi τ f)
theorem AP_E {Tm Ta : Gp} {k : Nat} {τ τ' : TD} (h : AP Tm k τ τ') (f : ∀ j, j < 6 → Ta 4 (6 * k + j) = Tm 4 (6 * k + j)) : AP Ta k τ τ' := by
  unfold AP at h ⊢
  have f0 : Ta 4 (6 * k) = Tm 4 (6 * k) := f 0 (by omega)
  rw [f0, f 1 (by omega), f 2 (by omega), f 3 (by omega), f 4 (by omega), f 5 (by omega)]
  exact h
/-- nothing but what is told has changed -/
def FC (Tm Ta : Gp) : Prop := ∀ c i, co c i ≠ 1 → Ta c i = Tm c i
theorem FC_t {A B C : Gp} (h : FC A B) (g : FC B C) : FC A C := fun c i e => (g c i e).trans (h c i e)
section TELL2
variable {τ τ' : TD} {Tm : Gp}
theorem m_t97 : ∀ k i n Tm, i + k = 96 → k < n → ∃ Ta, lX11_tell_97 n Tm (nI i) = some Ta ∧ (∀ j, i ≤ j → j < 96 → Ta 7 j = nI 5) ∧ ∀ c j, ¬ (c = 7 ∧ i ≤ j ∧ j < 96) → Ta c j = Tm c j := by
  intro k
  induction k with
  | zero =>
    intro i n Tm hk hn
    obtain ⟨n, rfl, -⟩ := gt_s hn
    rw [sX11_tell_97]
    unfold fX11_tell_97
    have q0 : (nI 96 ≤ nI i) = True := by rw [e_le (by omega) (by omega)]; exact eq_true (by omega)
    simp only [lit, q0, if_true]
    exact ⟨Tm, rfl, fun j h1 h2 => by omega, fun c j _ => rfl⟩
  | succ k ih =>
    intro i n Tm hk hn
    obtain ⟨n, rfl, hn⟩ := gt_s hn
    rw [sX11_tell_97]
    unfold fX11_tell_97
    have q0 : (nI 96 ≤ nI i) = False := by rw [e_le (by omega) (by omega)]; exact eq_false (by omega)
    have q : (ix (nI i) 96) = True := by rw [e_ix (by omega)]; exact eq_true (by omega)
    simp only [lit, q0, q, if_true, if_false, e_add, cl_nI (show i < 2 ^ 31 by omega)]
    obtain ⟨Ta, a1, a2, a3⟩ := ih (i + 1) n (u2 Tm 7 i (nI 5)) (by omega) (by omega)
    refine ⟨Ta, a1, fun j h1 h2 => ?_, fun c j h => ?_⟩
    · by_cases d : j = i
      · rw [a3 7 j (by omega), d, u2_same]
      · exact a2 j (by omega) h2
    · rw [a3 c j (by omega), u2_ap, if_neg (by omega)]
theorem m_t73 : ∀ k i n Tm, i + k = 6 → k < n → ∃ Ta, lX11_tell_73 n Tm (nI i) = some Ta ∧ (∀ j, i ≤ j → j < 6 → Ta 6 j = nI 0) ∧ (∀ j, j < 96 → Ta 7 j = nI 5) ∧ ∀ c j, ¬ (c = 6 ∧ i ≤ j ∧ j < 6) → ¬ (c = 7 ∧ j < 96) → Ta c j = Tm c j := by
  intro k
  induction k with
  | zero =>
    intro i n Tm hk hn
    obtain ⟨n, rfl, -⟩ := gt_s hn
    rw [sX11_tell_73]
    unfold fX11_tell_73
    have q0 : (nI 6 ≤ nI i) = True := by rw [e_le (by omega) (by omega)]; exact eq_true (by omega)
    simp only [lit, q0, if_true]
    obtain ⟨Ta, a1, a2, a3⟩ := m_t97 96 0 fu Tm (by omega) (fu_gt (by omega))
    exact ⟨Ta, a1, fun j h1 h2 => by omega, fun j hj => a2 j (by omega) hj, fun c j _ h => a3 c j (by omega)⟩
  | succ k ih =>
    intro i n Tm hk hn
    obtain ⟨n, rfl, hn⟩ := gt_s hn
    rw [sX11_tell_73]
    unfold fX11_tell_73
    have q0 : (nI 6 ≤ nI i) = False := by rw [e_le (by omega) (by omega)]; exact eq_false (by omega)
    have q : (ix (nI i) 6) = True := by rw [e_ix (by omega)]; exact eq_true (by omega)
    simp only [lit, q0, q, if_true, if_false, e_add, cl_nI (show i < 2 ^ 31 by omega)]
    obtain ⟨Ta, a1, a2, a3, a4⟩ := ih (i + 1) n (u2 Tm 6 i (nI 0)) (by omega) (by omega)
    refine ⟨Ta, a1, fun j h1 h2 => ?_, a3, fun c j h h' => ?_⟩
    · by_cases d : j = i
      · rw [a4 6 j (by omega) (by omega), d, u2_same]
      · exact a2 j (by omega) h2
    · rw [a4 c j (by omega) h', u2_ap, if_neg (by omega)]
theorem m_t122 {b w : Nat} (hb : b + 5 < 60) (hw : w < 5) : ∀ k i n Tm, i + k = 4 → k < n → ∃ Ta, lX11_tell_122 n Tm (nI b) (nI w) (nI i) = some Ta ∧ (∀ j, i ≤ j → j < 4 → Ta 5 (4 * w + j) = Tm 4 (b + 2 + j)) ∧ ∀ c j, ¬ (c = 5 ∧ 4 * w + i ≤ j ∧ j < 4 * w + 4) → Ta c j = Tm c j := by
  intro k
  induction k with
  | zero =>
    intro i n Tm hk hn
    obtain ⟨n, rfl, -⟩ := gt_s hn
    rw [sX11_tell_122]
    unfold fX11_tell_122
    have q0 : (nI 4 ≤ nI i) = True := by rw [e_le (by omega) (by omega)]; exact eq_true (by omega)
    simp only [lit, q0, if_true]
    exact ⟨Tm, rfl, fun j h1 h2 => by omega, fun c j _ => rfl⟩
  | succ k ih =>
    intro i n Tm hk hn
    obtain ⟨n, rfl, hn⟩ := gt_s hn
    rw [sX11_tell_122]
    unfold fX11_tell_122
    have q0 : (nI 4 ≤ nI i) = False := by rw [e_le (by omega) (by omega)]; exact eq_false (by omega)
    have q : (ix (nI (b + 2 + i)) 60) = True := by rw [e_ix (by omega)]; exact eq_true (by omega)
    have q' : (ix (nI (4 * w + i)) 24) = True := by rw [e_ix (by omega)]; exact eq_true (by omega)
    simp only [lit, q0, if_false, e_add, e_mul, q, q', if_true, cl_nI (show b + 2 + i < 2 ^ 31 by omega), cl_nI (show 4 * w + i < 2 ^ 31 by omega)]
    obtain ⟨Ta, a1, a2, a3⟩ := ih (i + 1) n (u2 Tm 5 (4 * w + i) (Tm 4 (b + 2 + i))) (by omega) (by omega)
    refine ⟨Ta, a1, fun j h1 h2 => ?_, fun c j h => ?_⟩
    · by_cases d : j = i
      · rw [a3 5 _ (by omega), d, u2_same]
      · rw [a2 j (by omega) h2, u2_ap, if_neg (by omega)]
    · rw [a3 c j (by omega), u2_ap, if_neg (by omega)]
theorem m_tell (h : RT Tm τ) {k : Nat} (hk10 : k < 10) (ap : AP Tm k τ τ') : ∃ Ta, fX11_tell Tm (nI (6 * k)) = some Ta ∧ RT Ta τ' ∧ FC Tm Ta := by
  obtain ⟨hw, h0, h1, h2, h3, hk, hc, hbr, hwo, hm⟩ := h
  have q0 : (ix (nI (6 * k)) 60) = True := by rw [e_ix (by omega)]; exact eq_true (by omega)
  have q1 : (ix (nI (6 * k + 1)) 60) = True := by rw [e_ix (by omega)]; exact eq_true (by omega)
  have q2 : (ix (nI (6 * k + 2)) 60) = True := by rw [e_ix (by omega)]; exact eq_true (by omega)
  have q3 : (ix (nI (6 * k + 3)) 60) = True := by rw [e_ix (by omega)]; exact eq_true (by omega)
  have q4 : (ix (nI (6 * k + 4)) 60) = True := by rw [e_ix (by omega)]; exact eq_true (by omega)
  have q5 : (ix (nI (6 * k + 5)) 60) = True := by rw [e_ix (by omega)]; exact eq_true (by omega)
  have z0 := cl_nI (show 6 * k < 2 ^ 31 by omega)
  have z1 := cl_nI (show 6 * k + 1 < 2 ^ 31 by omega)
  have z2 := cl_nI (show 6 * k + 2 < 2 ^ 31 by omega)
  have z3 := cl_nI (show 6 * k + 3 < 2 ^ 31 by omega)
  have z4 := cl_nI (show 6 * k + 4 < 2 ^ 31 by omega)
  have z5 := cl_nI (show 6 * k + 5 < 2 ^ 31 by omega)
  have ne : ∀ a b : Nat, a < 10 → b < 10 → a ≠ b → (nI a = nI b) = False := fun a b ha hb h => by rw [e_eq (by omega) (by omega)]; exact eq_false h
  unfold fX11_tell
  simp only [lit, e_add, q0, q1, q2, q3, q4, q5, z0, z1, z2, z3, z4, z5, if_true]
  rcases ap with ⟨a, b, ha, hb, r0, r1, r2, rfl⟩ | ⟨w, c, c0, b0, c1, b1, x, hw5, hc4, hb0, hb1, hx, r0, r1, r2, r3, r4, r5, rfl⟩ | ⟨p, j, hp, hj, r0, r1, r2, rfl⟩ | ⟨o, v, p, hr, w, ho, hv, hp, hhr, hw5, r0, r1, r2, r3, r4, r5, rfl⟩ | ⟨e, he, r0, r1, rfl⟩ | ⟨f, hf, r0, r1, rfl⟩
  · simp only [r0, r1, r2, if_true]
    obtain ⟨Ta, a1, a2, a3, a4⟩ := m_t73 6 0 fu (u2 (u2 Tm 0 6 (nI a)) 0 7 (nI b)) (by omega) (fu_gt (by omega))
    refine ⟨Ta, a1, ⟨TW_Tr hw ha hb, ?_, ?_, ?_, ?_, fun i hi => a2 i (by omega) hi, fun w hi => ?_, fun v w hv hi => ?_, fun w hi => ?_, fun i hi => a3 i hi⟩, fun c i hci => ?_⟩
    · rw [a4 0 6 (by omega) (by omega), u2_ap, if_neg (by omega), u2_same]; rfl
    · rw [a4 0 7 (by omega) (by omega), u2_same]; rfl
    · rw [a4 0 11 (by omega) (by omega), u2_ap, if_neg (by omega), u2_ap, if_neg (by omega)]; exact h2
    · rw [a4 0 12 (by omega) (by omega), u2_ap, if_neg (by omega), u2_ap, if_neg (by omega)]; exact h3
    · rw [a4 5 _ (by omega) (by omega), u2_ap, if_neg (by omega), u2_ap, if_neg (by omega)]; exact hc w hi
    · rw [a4 5 _ (by omega) (by omega), u2_ap, if_neg (by omega), u2_ap, if_neg (by omega)]; exact hbr v w hv hi
    · rw [a4 5 _ (by omega) (by omega), u2_ap, if_neg (by omega), u2_ap, if_neg (by omega)]; exact hwo w hi
    · have n6 : ¬ c = 6 := fun e => by subst e; exact hci rfl
      have n7 : ¬ c = 7 := fun e => by subst e; exact hci rfl
      have m6 : ¬ (c = 0 ∧ i = 6) := fun e => by rcases e with ⟨rfl, rfl⟩; exact hci rfl
      have m7 : ¬ (c = 0 ∧ i = 7) := fun e => by rcases e with ⟨rfl, rfl⟩; exact hci rfl
      rw [a4 c i (by omega) (by omega), u2_ap, if_neg m7, u2_ap, if_neg m6]
  · simp only [r0, r1, ne 1 0 (by omega) (by omega) (by omega), if_true, if_false]
    obtain ⟨Ta, a1, a2, a3⟩ := m_t122 (show 6 * k + 5 < 60 by omega) hw5 4 0 fu Tm (by omega) (fu_gt (by omega))
    have e0 := a2 0 (by omega) (by omega)
    have e1 := a2 1 (by omega) (by omega)
    have e2 := a2 2 (by omega) (by omega)
    have e3 := a2 3 (by omega) (by omega)
    rw [show 6 * k + 2 + 0 = 6 * k + 2 from rfl, r2] at e0
    rw [show 6 * k + 2 + 1 = 6 * k + 3 from rfl, r3] at e1
    rw [show 6 * k + 2 + 2 = 6 * k + 4 from rfl, r4] at e2
    rw [show 6 * k + 2 + 3 = 6 * k + 5 from rfl, r5] at e3
    refine ⟨Ta, a1, ⟨TW_Wk hw hw5 hc4 hb0 hb1 hx, ?_, ?_, ?_, ?_, fun i hi => ?_, fun j hi => ?_, fun v j hv hi => ?_, fun j hi => ?_, fun i hi => ?_⟩, fun c i hci => ?_⟩
    · rw [a3 0 6 (by omega)]; exact h0
    · rw [a3 0 7 (by omega)]; exact h1
    · rw [a3 0 11 (by omega)]; exact h2
    · rw [a3 0 12 (by omega)]; exact h3
    · rw [a3 6 _ (by omega)]; exact hk i hi
    · show _ = nI (if j = w then c else cl τ j)
      by_cases d : j = w
      · rw [if_pos d, d]; exact e0
      · rw [if_neg d, a3 5 _ (by omega)]; exact hc j hi
    · have hbc : bcell (sWk τ w c c0 b0 c1 b1 x) v j = if j = w then (if v = 0 then bx c0 b0 else bx c1 b1) else bcell τ v j := by
        unfold bcell bx
        show (if (if j = w then (if v = 0 then c0 else c1) else cn τ v j) = true then nI (if j = w then (if v = 0 then b0 else b1) else br τ v j) else -nI 1) = _
        by_cases d : j = w
        · simp only [d, if_true]
          by_cases e : v = 0
          · simp only [e, if_true]
          · simp only [e, if_false]
        · simp only [d, if_false]
      rw [hbc]
      by_cases d : j = w
      · rw [if_pos d, d]
        have v2 : v = 0 ∨ v = 1 := by omega
        rcases v2 with rfl | rfl
        · rw [if_pos rfl]; exact e1
        · rw [if_neg (by omega)]; exact e2
      · rw [if_neg d, a3 5 _ (by omega)]; exact hbr v j hv hi
    · show _ = nI (if j = w then x else wo τ j)
      by_cases d : j = w
      · rw [if_pos d, d]; exact e3
      · rw [if_neg d, a3 5 _ (by omega)]; exact hwo j hi
    · rw [a3 7 _ (by omega)]; exact hm i hi
    · have n5 : ¬ c = 5 := fun e => by subst e; exact hci rfl
      exact a3 c i (by omega)
  · have q6 : (ix (nI p) 6) = True := by have := hw.1; rw [e_ix (by omega)]; exact eq_true (by omega)
    have z6 := cl_nI (show p < 2 ^ 31 by have := hw.1; omega)
    simp only [r0, r1, r2, ne 2 0 (by omega) (by omega) (by omega), ne 2 1 (by omega) (by omega) (by omega), q6, z6, if_true, if_false]
    refine ⟨_, rfl, ⟨TW_Kd hw hj, ?_, ?_, ?_, ?_, fun i hi => ?_, fun w hi => ?_, fun v w hv hi => ?_, fun w hi => ?_, fun i hi => ?_⟩, fun c i hci => ?_⟩
    · rw [u2_ap, if_neg (by omega)]; exact h0
    · rw [u2_ap, if_neg (by omega)]; exact h1
    · rw [u2_ap, if_neg (by omega)]; exact h2
    · rw [u2_ap, if_neg (by omega)]; exact h3
    · rw [u2_ap]
      show _ = nI (if i = p then j else kd τ i)
      by_cases d : i = p
      · rw [if_pos ⟨rfl, d⟩, if_pos d]
      · rw [if_neg (fun e => d e.2), if_neg d]; exact hk i hi
    · rw [u2_ap, if_neg (by omega)]; exact hc w hi
    · rw [u2_ap, if_neg (by omega)]; exact hbr v w hv hi
    · rw [u2_ap, if_neg (by omega)]; exact hwo w hi
    · rw [u2_ap, if_neg (by omega)]; exact hm i hi
    · have n6 : ¬ c = 6 := fun e => by subst e; exact hci rfl
      rw [u2_ap, if_neg (fun e => n6 e.1)]
  · have hN := hw.1
    have hH := hw.2.1
    have ei : 48 * o + 24 * v + 4 * p + hr = 48 * o + ((v * 6 + p) * 4 + hr) := by omega
    have q6 : (ix (nI (48 * o + ((v * 6 + p) * 4 + hr))) 96) = True := by rw [e_ix (by omega)]; exact eq_true (by omega)
    have z6 := cl_nI (show 48 * o + ((v * 6 + p) * 4 + hr) < 2 ^ 31 by omega)
    unfold fX11_meantAt
    simp only [r0, r1, r2, r3, r4, r5, ne 3 0 (by omega) (by omega) (by omega), ne 3 1 (by omega) (by omega) (by omega), ne 3 2 (by omega) (by omega) (by omega), lit, e_mul, e_add, bd1_s, ei, q6, z6, if_true, if_false]
    refine ⟨_, rfl, ⟨TW_Mn hw hw5, ?_, ?_, ?_, ?_, fun i hi => ?_, fun w hi => ?_, fun v w hv hi => ?_, fun w hi => ?_, fun i hi => ?_⟩, fun c i hci => ?_⟩
    · rw [u2_ap, if_neg (by omega)]; exact h0
    · rw [u2_ap, if_neg (by omega)]; exact h1
    · rw [u2_ap, if_neg (by omega)]; exact h2
    · rw [u2_ap, if_neg (by omega)]; exact h3
    · rw [u2_ap, if_neg (by omega)]; exact hk i hi
    · rw [u2_ap, if_neg (by omega)]; exact hc w hi
    · rw [u2_ap, if_neg (by omega)]; exact hbr v w hv hi
    · rw [u2_ap, if_neg (by omega)]; exact hwo w hi
    · rw [u2_ap]
      show _ = nI (if i = 48 * o + ((v * 6 + p) * 4 + hr) then w else mn τ i)
      by_cases d : i = 48 * o + ((v * 6 + p) * 4 + hr)
      · rw [if_pos ⟨rfl, d⟩, if_pos d]
      · rw [if_neg (fun e => d e.2), if_neg d]; exact hm i hi
    · have n7 : ¬ c = 7 := fun e => by subst e; exact hci rfl
      rw [u2_ap, if_neg (fun e => n7 e.1)]
  · simp only [r0, r1, ne 4 0 (by omega) (by omega) (by omega), ne 4 1 (by omega) (by omega) (by omega), ne 4 2 (by omega) (by omega) (by omega), ne 4 3 (by omega) (by omega) (by omega), if_true, if_false]
    refine ⟨_, rfl, ⟨TW_Ea hw he, ?_, ?_, u2_same _ _ _ _, ?_, fun i hi => ?_, fun w hi => ?_, fun v w hv hi => ?_, fun w hi => ?_, fun i hi => ?_⟩, fun c i hci => ?_⟩
    · rw [u2_ap, if_neg (by omega)]; exact h0
    · rw [u2_ap, if_neg (by omega)]; exact h1
    · rw [u2_ap, if_neg (by omega)]; exact h3
    · rw [u2_ap, if_neg (by omega)]; exact hk i hi
    · rw [u2_ap, if_neg (by omega)]; exact hc w hi
    · rw [u2_ap, if_neg (by omega)]; exact hbr v w hv hi
    · rw [u2_ap, if_neg (by omega)]; exact hwo w hi
    · rw [u2_ap, if_neg (by omega)]; exact hm i hi
    · have m6 : ¬ (c = 0 ∧ i = 11) := fun e => by rcases e with ⟨rfl, rfl⟩; exact hci rfl
      rw [u2_ap, if_neg m6]
  · simp only [r0, r1, ne 5 0 (by omega) (by omega) (by omega), ne 5 1 (by omega) (by omega) (by omega), ne 5 2 (by omega) (by omega) (by omega), ne 5 3 (by omega) (by omega) (by omega), ne 5 4 (by omega) (by omega) (by omega), if_true, if_false]
    refine ⟨_, rfl, ⟨TW_Fi hw hf, ?_, ?_, ?_, u2_same _ _ _ _, fun i hi => ?_, fun w hi => ?_, fun v w hv hi => ?_, fun w hi => ?_, fun i hi => ?_⟩, fun c i hci => ?_⟩
    · rw [u2_ap, if_neg (by omega)]; exact h0
    · rw [u2_ap, if_neg (by omega)]; exact h1
    · rw [u2_ap, if_neg (by omega)]; exact h2
    · rw [u2_ap, if_neg (by omega)]; exact hk i hi
    · rw [u2_ap, if_neg (by omega)]; exact hc w hi
    · rw [u2_ap, if_neg (by omega)]; exact hbr v w hv hi
    · rw [u2_ap, if_neg (by omega)]; exact hwo w hi
    · rw [u2_ap, if_neg (by omega)]; exact hm i hi
    · have m6 : ¬ (c = 0 ∧ i = 12) := fun e => by rcases e with ⟨rfl, rfl⟩; exact hci rfl
      rw [u2_ap, if_neg m6]
end TELL2
