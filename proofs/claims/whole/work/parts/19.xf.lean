def FQ (j : Nat) (Tm Ta : Gp) : Prop := ∀ c i, ¬ (c = 0 ∧ (i = 13 ∨ i = 14 ∨ i = 15)) → ¬ (c = 4 ∧ i = j) → Ta c i = Tm c i
def FR' (q : Nat) (Tm Ta : Gp) : Prop := ∀ c i, ¬ (c = 0 ∧ (i = 13 ∨ i = 14 ∨ i = 15)) → ¬ (c = 4 ∧ 6 * q + 1 ≤ i ∧ i ≤ 6 * q + 5) → Ta c i = Tm c i
theorem FQ_r (q : Nat) (Tm : Gp) : FR' q Tm Tm := fun _ _ _ _ => rfl
theorem FR_q {q k : Nat} {A B C : Gp} (h : FR' q A B) (hk : k ≤ 4) (g : FQ (6 * q + 1 + k) B C) : FR' q A C := fun c i e f => (g c i e (by omega)).trans (h c i e f)
section LINE
variable {Tx Tm Tk Tl : Gp} {len : Nat} {t : Nat → Nat} {b : Nat} {l m k q : Nat}
theorem tk (h : XT len t Tx Tm) (hk : KK len t Tk Tm b) (hm : m ≤ 99) (hlm : l ≤ 99) (hk4 : k ≤ 4) (hq : q < 10) (h5 : Tm 0 5 = nI q) (hT : Tl 0 1 = -nI 1) :
    (∃ v Ta Tn b', l ≤ v ∧ v ≤ m ∧ fX1_takeNumber Tl Tk Tx (nI l) (nI m) = some (nI v, Tl, Ta) ∧ fX11_reads Tm (nI k) (nI l) (nI m) = some (nI 1, Tn) ∧ XT len t Tx Tn ∧ KK len t Ta Tn b' ∧ Tn 0 5 = nI q ∧ Tn 4 (6 * q + 1 + k) = nI v ∧ FQ (6 * q + 1 + k) Tm Tn) ∨
    (∃ r, fX1_takeNumber Tl Tk Tx (nI l) (nI m) = some (r, u2 Tl 0 1 (nI b), Tk) ∧ fX11_reads Tm (nI k) (nI l) (nI m) = some (nI 0, Tm)) := by
  rcases both_take h hk hm hlm hk4 hq h5 hT with ⟨v, Ta, Tn, b', a1, a2, a3, a4, a5, a6⟩ | f
  · left
    refine ⟨v, Ta, Tn, b', a1, a2, a3, a4, XT_f (XT_4 h _ _) a5, a6, ?_, ?_, fun c i e f => ?_⟩
    · rw [a5 0 5 (by omega), u2_ap, if_neg (by omega)]; exact h5
    · rw [a5 4 _ (by omega), u2_same]
    · rw [a5 c i e, u2_ap, if_neg f]
  · exact Or.inr f
theorem tkb (h : XT len t Tx Tm) (hk : KK len t Tk Tm b) (hk4 : k ≤ 4) (hq : q < 10) (h5 : Tm 0 5 = nI q) (hT : Tl 0 1 = -nI 1) :
    (∃ (c : Bool) (w : Nat) (Ta Tn : Gp) (b' : Nat), w ≤ 20 ∧ fX1_takeNumber Tl Tk Tx (-nI 1) (nI 20) = some (bx c w, Tl, Ta) ∧ fX11_readsBread Tm (nI k) = some (nI 1, Tn) ∧ XT len t Tx Tn ∧ KK len t Ta Tn b' ∧ Tn 0 5 = nI q ∧ Tn 4 (6 * q + 1 + k) = bx c w ∧ FQ (6 * q + 1 + k) Tm Tn) ∨
    (∃ r, fX1_takeNumber Tl Tk Tx (-nI 1) (nI 20) = some (r, u2 Tl 0 1 (nI b), Tk) ∧ fX11_readsBread Tm (nI k) = some (nI 0, Tm)) := by
  rcases both_bread h hk hk4 hq h5 hT with ⟨c, w, Ta, Tn, b', a1, a3, a4, a5, a6⟩ | f
  · left
    refine ⟨c, w, Ta, Tn, b', a1, a3, a4, XT_f (XT_4 h _ _) a5, a6, ?_, ?_, fun c i e f => ?_⟩
    · rw [a5 0 5 (by omega), u2_ap, if_neg (by omega)]; exact h5
    · rw [a5 4 _ (by omega), u2_same]; rfl
    · rw [a5 c i e, u2_ap, if_neg f]
  · exact Or.inr f
end LINE
/-- a line fails on both sides at the same place -/
def LF (q : Nat) (Tm : Gp) (r1 : Option (Gp × Gp × Gp)) (r2 : Option (Int32 × Gp)) : Prop := ∃ Tl' Ta Tb Tn f, f ≤ 200 ∧ r1 = some (Tl', Ta, Tb) ∧ Tl' 0 1 = nI f ∧ r2 = some (nI 0, Tn) ∧ Tn 0 14 = nI f ∧ FR' q Tm Tn
/-- a line is read on both sides -/
def LO (len : Nat) (t : Nat → Nat) (Tx Tl : Gp) (q : Nat) (τ : TD) (Tm : Gp) (r1 : Option (Gp × Gp × Gp)) (r2 : Option (Int32 × Gp)) : Prop := ∃ Ta Tb Tn b' τ', r1 = some (Tl, Ta, Tb) ∧ r2 = some (nI 1, Tn) ∧ XT len t Tx Tn ∧ KK len t Ta Tn b' ∧ CT Tb τ' ∧ AP Tn q τ τ' ∧ FR' q Tm Tn
section LINE2
variable {Tx Tm Tk Tl T0 Tv : Gp} {len : Nat} {t : Nat → Nat} {b : Nat} {q : Nat} {τ : TD}
theorem m1f {f : Nat} (hf : f < 2 ^ 31) : (u2 Tl 0 1 (nI f) 0 1 = -nI 1) = False := by rw [u2_same, e_eqm hf]
theorem L_tr (h : XT len t Tx Tm) (hk : KK len t Tk Tm b) (hq : q < 10) (h5 : Tm 0 5 = nI q) (h4 : Tm 4 (6 * q) = nI 0) (hT : Tl 0 1 = -nI 1) (ha : fX8_advance T0 Tx = some Tk) (hc : CT Tv τ) : LF q Tm (fX1_readTreaty Tl T0 Tx Tv) (fX11_readsRest Tm (nI 0)) ∨ LO len t Tx Tl q τ Tm (fX1_readTreaty Tl T0 Tx Tv) (fX11_readsRest Tm (nI 0)) := by
  have hl := h.1
  have hb := hk.1
  have q1 : (nI 1 = nI 0) = False := by rw [e_eq (by omega) (by omega)]; exact eq_false (by omega)
  unfold fX1_readTreaty fX11_readsRest
  rw [ha]
  simp only [bd1_s, lq, if_true]
  rcases tk h hk (l := 1) (m := 6) (k := 0) (by omega) (by omega) (by omega) hq h5 hT with ⟨v1, K1, M1, b1, a1, a2, a3, a4, X1, a5, a6, a7, a8⟩ | ⟨r, e1, e2⟩
  · rw [a3, a4]
    simp only [bd3_s, bd2_s, q1, if_false]
    have F1 := FR_q (FQ_r q Tm) (show 0 ≤ 4 by omega) a8
    rcases tk X1 a5 (l := 1) (m := 4) (k := 1) (by omega) (by omega) (by omega) hq a6 hT with ⟨v2, K2, M2, b2, c1, c2, c3, c4, X2, c5, c6, c7, c8⟩ | ⟨r, e1, e2⟩
    · right
      have F2 := FR_q F1 (show 1 ≤ 4 by omega) c8
      obtain ⟨Tb, d1, d2⟩ := c_settle hc (a := v1) (b := v2) ⟨a1, a2⟩ ⟨c1, c2⟩
      rw [c3, c4]
      simp only [bd3_s, bd2_s, q1, if_false, hT, if_true, d1, bd1_s]
      refine ⟨K2, Tb, M2, b2, _, rfl, rfl, X2, c5, d2, Or.inl ⟨v1, v2, ⟨a1, a2⟩, ⟨c1, c2⟩, ?_, ?_, ?_, rfl⟩, F2⟩
      · rw [F2 4 _ (by omega) (by omega)]; exact h4
      · rw [c8 4 _ (by omega) (by omega)]; exact a7
      · exact c7
    · left
      have hb1 := a5.1
      rw [e1, e2]
      simp only [bd3_s, bd2_s, m1f (show b1 < 2 ^ 31 by omega), if_false, if_true]
      exact ⟨_, _, _, _, b1, by omega, rfl, u2_same _ _ _ _, rfl, a5.2.2.2.2.2.1, F1⟩
  · left
    rw [e1, e2]
    simp only [bd3_s, bd2_s, c_afterb _ _ (show b < 2 ^ 31 by omega), m1f (show b < 2 ^ 31 by omega), if_false, if_true]
    exact ⟨_, _, _, _, b, by omega, rfl, u2_same _ _ _ _, rfl, hk.2.2.2.2.2.1, FQ_r _ _⟩
theorem L_ea (h : XT len t Tx Tm) (hk : KK len t Tk Tm b) (hq : q < 10) (h5 : Tm 0 5 = nI q) (h4 : Tm 4 (6 * q) = nI 4) (hT : Tl 0 1 = -nI 1) (ha : fX8_advance T0 Tx = some Tk) (hc : CT Tv τ) : LF q Tm (fX1_readEats Tl T0 Tx Tv) (fX11_readsRest Tm (nI 4)) ∨ LO len t Tx Tl q τ Tm (fX1_readEats Tl T0 Tx Tv) (fX11_readsRest Tm (nI 4)) := by
  have hl := h.1
  have hb := hk.1
  have ne : ∀ a b : Nat, a < 10 → b < 10 → a ≠ b → (nI a = nI b) = False := fun a b ha hb h => by rw [e_eq (by omega) (by omega)]; exact eq_false h
  unfold fX1_readEats fX11_readsRest
  rw [ha]
  simp only [bd1_s, lq, ne 4 0 (by omega) (by omega) (by omega), ne 4 1 (by omega) (by omega) (by omega), ne 4 2 (by omega) (by omega) (by omega), ne 4 3 (by omega) (by omega) (by omega), if_true, if_false]
  rcases tk h hk (l := 0) (m := 20) (k := 0) (by omega) (by omega) (by omega) hq h5 hT with ⟨v1, K1, M1, b1, a1, a2, a3, a4, X1, a5, a6, a7, a8⟩ | ⟨r, e1, e2⟩
  · right
    have F1 := FR_q (FQ_r q Tm) (show 0 ≤ 4 by omega) a8
    rw [a3, a4]
    simp only [bd3_s, bd2_s, hT, nar1, if_true]
    refine ⟨K1, _, M1, b1, _, rfl, rfl, X1, a5, c_tellEats hc a2, Or.inr (Or.inr (Or.inr (Or.inr (Or.inl ⟨v1, a2, ?_, a7, rfl⟩)))), F1⟩
    rw [F1 4 _ (by omega) (by omega)]; exact h4
  · left
    rw [e1, e2]
    simp only [bd3_s, bd2_s, m1f (show b < 2 ^ 31 by omega), if_false, if_true, nar0]
    exact ⟨_, _, _, _, b, by omega, rfl, u2_same _ _ _ _, rfl, hk.2.2.2.2.2.1, FQ_r _ _⟩
theorem L_fi (h : XT len t Tx Tm) (hk : KK len t Tk Tm b) (hq : q < 10) (h5 : Tm 0 5 = nI q) (h4 : Tm 4 (6 * q) = nI 5) (hT : Tl 0 1 = -nI 1) (ha : fX8_advance T0 Tx = some Tk) (hc : CT Tv τ) : LF q Tm (fX1_readFine Tl T0 Tx Tv) (fX11_readsRest Tm (nI 5)) ∨ LO len t Tx Tl q τ Tm (fX1_readFine Tl T0 Tx Tv) (fX11_readsRest Tm (nI 5)) := by
  have hl := h.1
  have hb := hk.1
  have ne : ∀ a b : Nat, a < 10 → b < 10 → a ≠ b → (nI a = nI b) = False := fun a b ha hb h => by rw [e_eq (by omega) (by omega)]; exact eq_false h
  unfold fX1_readFine fX11_readsRest
  rw [ha]
  simp only [bd1_s, lq, ne 5 0 (by omega) (by omega) (by omega), ne 5 1 (by omega) (by omega) (by omega), ne 5 2 (by omega) (by omega) (by omega), ne 5 3 (by omega) (by omega) (by omega), ne 5 4 (by omega) (by omega) (by omega), if_true, if_false]
  rcases tk h hk (l := 0) (m := 99) (k := 0) (by omega) (by omega) (by omega) hq h5 hT with ⟨v1, K1, M1, b1, a1, a2, a3, a4, X1, a5, a6, a7, a8⟩ | ⟨r, e1, e2⟩
  · right
    have F1 := FR_q (FQ_r q Tm) (show 0 ≤ 4 by omega) a8
    rw [a3, a4]
    simp only [bd3_s, bd2_s, hT, nar1, if_true]
    refine ⟨K1, _, M1, b1, _, rfl, rfl, X1, a5, c_tellFine hc a2, Or.inr (Or.inr (Or.inr (Or.inr (Or.inr ⟨v1, a2, ?_, a7, rfl⟩)))), F1⟩
    rw [F1 4 _ (by omega) (by omega)]; exact h4
  · left
    rw [e1, e2]
    simp only [bd3_s, bd2_s, m1f (show b < 2 ^ 31 by omega), if_false, if_true, nar0]
    exact ⟨_, _, _, _, b, by omega, rfl, u2_same _ _ _ _, rfl, hk.2.2.2.2.2.1, FQ_r _ _⟩
theorem L_kd (h : XT len t Tx Tm) (hk : KK len t Tk Tm b) (hq : q < 10) (h5 : Tm 0 5 = nI q) (h4 : Tm 4 (6 * q) = nI 2) (hT : Tl 0 1 = -nI 1) (ha : fX8_advance T0 Tx = some Tk) (hc : CT Tv τ) (h16 : Tm 0 16 = nI (tN τ)) : LF q Tm (fX1_readKind Tl T0 Tx Tv) (fX11_readsRest Tm (nI 2)) ∨ LO len t Tx Tl q τ Tm (fX1_readKind Tl T0 Tx Tv) (fX11_readsRest Tm (nI 2)) := by
  have hl := h.1
  have hb := hk.1
  have hN := hc.1.1
  have t0 : Tv 0 0 = nI (tN τ) := hc.2.1
  have ne : ∀ a b : Nat, a < 10 → b < 10 → a ≠ b → (nI a = nI b) = False := fun a b ha hb h => by rw [e_eq (by omega) (by omega)]; exact eq_false h
  unfold fX1_readKind fX11_readsRest
  rw [ha, t0, h16]
  simp only [bd1_s, lq, ne 2 0 (by omega) (by omega) (by omega), ne 2 1 (by omega) (by omega) (by omega), if_true, if_false, e_sub hN.1]
  rcases tk h hk (l := 0) (m := tN τ - 1) (k := 0) (by omega) (by omega) (by omega) hq h5 hT with ⟨v1, K1, M1, b1, a1, a2, a3, a4, X1, a5, a6, a7, a8⟩ | ⟨r, e1, e2⟩
  · rw [a3, a4]
    simp only [bd3_s, bd2_s, ne 1 0 (by omega) (by omega) (by omega), if_false]
    have F1 := FR_q (FQ_r q Tm) (show 0 ≤ 4 by omega) a8
    rcases tk X1 a5 (l := 0) (m := 3) (k := 1) (by omega) (by omega) (by omega) hq a6 hT with ⟨v2, K2, M2, b2, c1, c2, c3, c4, X2, c5, c6, c7, c8⟩ | ⟨r, e1, e2⟩
    · right
      have F2 := FR_q F1 (show 1 ≤ 4 by omega) c8
      obtain ⟨Tb, d1, d2⟩ := c_tellKind hc (p := v1) (k := v2) (by omega) (by omega)
      rw [c3, c4]
      simp only [bd3_s, bd2_s, ne 1 0 (by omega) (by omega) (by omega), if_false, hT, if_true, d1, bd1_s]
      refine ⟨K2, Tb, M2, b2, _, rfl, rfl, X2, c5, d2, Or.inr (Or.inr (Or.inl ⟨v1, v2, by omega, by omega, ?_, ?_, c7, rfl⟩)), F2⟩
      · rw [F2 4 _ (by omega) (by omega)]; exact h4
      · rw [c8 4 _ (by omega) (by omega)]; exact a7
    · left
      have hb1 := a5.1
      rw [e1, e2]
      simp only [bd3_s, bd2_s, m1f (show b1 < 2 ^ 31 by omega), if_false, if_true]
      exact ⟨_, _, _, _, b1, by omega, rfl, u2_same _ _ _ _, rfl, a5.2.2.2.2.2.1, F1⟩
  · left
    rw [e1, e2]
    simp only [bd3_s, bd2_s, c_afterb _ _ (show b < 2 ^ 31 by omega), m1f (show b < 2 ^ 31 by omega), if_false, if_true]
    exact ⟨_, _, _, _, b, by omega, rfl, u2_same _ _ _ _, rfl, hk.2.2.2.2.2.1, FQ_r _ _⟩
end LINE2
