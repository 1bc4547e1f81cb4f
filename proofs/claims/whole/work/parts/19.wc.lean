section PLD
variable {Tt : Gp} {τ : TD} {o : Nat}
theorem may_cn (hw : TW τ) {v p h w : Nat} (e : may τ v p h w = true) : cn τ v w = true := by
  unfold may at e
  by_cases c : w = 5
  · rw [c]; exact hw.2.2.2.2.2.2.2.1 v
  · rw [decide_eq_false c] at e
    simp only [Bool.false_or, Bool.and_eq_true] at e
    exact e.1.1
theorem al_ph {p h a b : Nat} (hh : h < tH τ) (hb : b < 6) : al τ o (p * tH τ + h) (6 * a + b) = (may τ 0 p h a && may τ 1 p h b && kt τ o p a b) := by
  unfold al
  have e1 : (p * tH τ + h) / tH τ = p := by rw [Nat.mul_comm, Nat.mul_add_div (by omega), Nat.div_eq_of_lt hh, Nat.add_zero]
  have e2 : (p * tH τ + h) % tH τ = h := by rw [Nat.mul_comm, Nat.mul_add_mod, Nat.mod_eq_of_lt hh]
  rw [e1, e2, show (6 * a + b) / 6 = a by omega, show (6 * a + b) % 6 = b by omega]
theorem mk_ph {p h a b : Nat} (hh : h < tH τ) (hb : b < 6) : mk τ (p * tH τ + h) (6 * a + b) = bm τ 0 p a + bm τ 1 p b := by
  unfold mk
  have e1 : (p * tH τ + h) / tH τ = p := by rw [Nat.mul_comm, Nat.mul_add_div (by omega), Nat.div_eq_of_lt hh, Nat.add_zero]
  rw [e1, show (6 * a + b) / 6 = a by omega, show (6 * a + b) % 6 = b by omega]
theorem ww_ph {a b : Nat} (hb : b < 6) : ww τ (6 * a + b) = wo τ a + wo τ b := by
  unfold ww
  rw [show (6 * a + b) / 6 = a by omega, show (6 * a + b) % 6 = b by omega]
theorem c_isAllowed (Tp : Gp) (ht : CT Tt τ) {p h a b : Nat} (ho : o < 2) (hp : p < tN τ) (hh : h < tH τ) (ha : a < 6) (hb : b < 6) : fX5_isAllowed Tp Tt (nI o) (nI p) (nI h) (nI a) (nI b) = some (bI (al τ o (p * tH τ + h) (6 * a + b))) := by
  have hH := ht.1.2.1
  rw [al_ph hh hb]
  unfold fX5_isAllowed
  simp only [lit, c_mayDo ht (show 0 < 2 by omega) hp (show h < 4 by omega) (show a ≤ 5 by omega), c_mayDo ht (show 1 < 2 by omega) hp (show h < 4 by omega) (show b ≤ 5 by omega), c_keepsTreaty ht ho hp (show a ≤ 5 by omega) (show b ≤ 5 by omega), bd1_s, bI_0]
  cases may τ 0 p h a <;> cases may τ 1 p h b <;> cases kt τ o p a b <;> simp [bI]
theorem c_madeBy (Tp : Gp) (ht : CT Tt τ) {p h a b : Nat} (hp : p < tN τ) (hh : h < tH τ) (ha : a < 6) (hb : b < 6) (e : al τ o (p * tH τ + h) (6 * a + b) = true) : fX5_madeBy Tp Tt (nI p) (nI a) (nI b) = some (nI (mk τ (p * tH τ + h) (6 * a + b))) := by
  rw [al_ph hh hb] at e
  simp only [Bool.and_eq_true] at e
  have c0 := may_cn ht.1 e.1.1
  have c1 := may_cn ht.1 e.1.2
  rw [mk_ph hh hb]
  unfold fX5_madeBy
  simp only [lit, c_breadMade ht (show 0 < 2 by omega) hp (show a ≤ 5 by omega) c0, c_breadMade ht (show 1 < 2 by omega) hp (show b ≤ 5 by omega) c1, bd1_s, e_add]
theorem c_pworth (Tp : Gp) (ht : CT Tt τ) {a b : Nat} (ha : a < 6) (hb : b < 6) : fX5_worthOf Tp Tt (nI a) (nI b) = some (nI (ww τ (6 * a + b))) := by
  rw [ww_ph hb]
  unfold fX5_worthOf
  simp only [c_worthOf ht (show a ≤ 5 by omega), c_worthOf ht (show b ≤ 5 by omega), bd1_s, e_add]
theorem c_find20 (ht : CT Tt τ) (rec11 : Gp → Int32 → Int32 → Int32 → Int32 → Option Gp) {p h a : Nat} (ho : o < 2) (hp : p < tN τ) (hh : h < tH τ) (ha : a < 6) : ∀ k b n Tp, b + k = 6 → k < n → (∀ m, m < 41 → Tp 2 m = pI (Wf τ o (p * tH τ + h) (6 * a + b) m)) → ∃ Ta, lX5_findWorths_20 Tt rec11 n Tp (nI o) (nI p) (nI h) (nI a) (nI b) = rec11 Ta (nI o) (nI p) (nI h) (nI (a + 1)) ∧ (∀ m, m < 41 → Ta 2 m = pI (Wf τ o (p * tH τ + h) (6 * a + 6) m)) ∧ ∀ c, c ≠ 2 → Ta c = Tp c := by
  intro k
  induction k with
  | zero =>
    intro b n Tp hk hn hT
    obtain ⟨n, rfl, -⟩ := gt_s hn
    have hb : b = 6 := by omega
    subst hb
    rw [sX5_findWorths_20]
    unfold fX5_findWorths_20
    have q0 : (nI 5 < nI 6) = True := by rw [e_lt (by omega) (by omega)]; exact eq_true (by omega)
    simp only [lit, q0, if_true, e_add]
    exact ⟨Tp, rfl, hT, fun c _ => rfl⟩
  | succ k ih =>
    intro b n Tp hk hn hT
    obtain ⟨n, rfl, hn⟩ := gt_s hn
    have hb : b < 6 := by omega
    rw [sX5_findWorths_20]
    unfold fX5_findWorths_20
    have q0 : (nI 5 < nI b) = False := by rw [e_lt (by omega) (by omega)]; exact eq_false (by omega)
    simp only [lit, q0, if_false, c_isAllowed Tp ht ho hp hh ha hb, bd1_s, bI_0, e_add]
    have st : ∀ m, Wf τ o (p * tH τ + h) (6 * a + (b + 1)) m = max (Wf τ o (p * tH τ + h) (6 * a + b) m) (if al τ o (p * tH τ + h) (6 * a + b) = true ∧ mk τ (p * tH τ + h) (6 * a + b) = m then ww τ (6 * a + b) + 1 else 0) := fun m => rfl
    cases hal : al τ o (p * tH τ + h) (6 * a + b)
    · rw [if_pos rfl]
      exact ih (b + 1) n Tp (by omega) (by omega) (fun m hm => by rw [st, hal, if_neg (by simp), Nat.max_eq_left (Nat.zero_le _)]; exact hT m hm)
    · rw [if_neg (by simp)]
      have ml := mk_le ht.1 (p * tH τ + h) (6 * a + b)
      have wl := ww_le ht.1 (6 * a + b)
      have w1 : fX10_within (nI (mk τ (p * tH τ + h) (6 * a + b))) (nI 0) (nI 40) = some (bI true) := by
        rw [show (40 : Nat) = 41 - 1 from rfl, within_ok (by omega) (by omega), ok_nI (by omega) (by omega)]
      have q : (ix (nI (mk τ (p * tH τ + h) (6 * a + b))) 41) = True := by rw [e_ix (by omega)]; exact eq_true (by omega)
      have z := cl_nI (show mk τ (p * tH τ + h) (6 * a + b) < 2 ^ 31 by omega)
      have wb := Wf_le (o := o) ht.1 (p * tH τ + h) (6 * a + b) (mk τ (p * tH τ + h) (6 * a + b))
      simp only [c_madeBy Tp ht hp hh ha hb hal, bd1_s, w1, bI_0, Bool.true_eq_false, if_false, q, if_true, c_pworth Tp ht ha hb, z, hT _ (show mk τ (p * tH τ + h) (6 * a + b) < 41 by omega)]
      rw [← pI_s (ww τ (6 * a + b)), pI_max (by omega) (by omega)]
      obtain ⟨Ta, e1, e2, e3⟩ := ih (b + 1) n (u2 Tp 2 (mk τ (p * tH τ + h) (6 * a + b)) (pI (max (Wf τ o (p * tH τ + h) (6 * a + b) (mk τ (p * tH τ + h) (6 * a + b))) (ww τ (6 * a + b) + 1)))) (by omega) (by omega) (fun m hm => by
        rw [st, u2_ap]
        by_cases d : m = mk τ (p * tH τ + h) (6 * a + b)
        · rw [if_pos ⟨rfl, d⟩, if_pos ⟨hal, d.symm⟩, d]
        · rw [if_neg (fun e => d e.2), if_neg (fun e => d e.2.symm), Nat.max_eq_left (Nat.zero_le _)]
          exact hT m hm)
      exact ⟨Ta, e1, e2, fun c hc => by rw [e3 c hc, u2_c hc]⟩
theorem c_find11 (ht : CT Tt τ) {p h : Nat} (ho : o < 2) (hp : p < tN τ) (hh : h < tH τ) : ∀ k a n Tp, a + k = 6 → k < n → (∀ m, m < 41 → Tp 2 m = pI (Wf τ o (p * tH τ + h) (6 * a) m)) → ∃ Ta, lX5_findWorths_11 Tt n Tp (nI o) (nI p) (nI h) (nI a) = some Ta ∧ (∀ m, m < 41 → Ta 2 m = pI (Wf τ o (p * tH τ + h) 36 m)) ∧ ∀ c, c ≠ 2 → Ta c = Tp c := by
  intro k
  induction k with
  | zero =>
    intro a n Tp hk hn hT
    obtain ⟨n, rfl, -⟩ := gt_s hn
    have ha : a = 6 := by omega
    subst ha
    rw [sX5_findWorths_11]
    unfold fX5_findWorths_11
    have q0 : (nI 5 < nI 6) = True := by rw [e_lt (by omega) (by omega)]; exact eq_true (by omega)
    simp only [lit, q0, if_true]
    exact ⟨Tp, rfl, hT, fun c _ => rfl⟩
  | succ k ih =>
    intro a n Tp hk hn hT
    obtain ⟨n, rfl, hn⟩ := gt_s hn
    rw [sX5_findWorths_11]
    unfold fX5_findWorths_11
    have q0 : (nI 5 < nI a) = False := by rw [e_lt (by omega) (by omega)]; exact eq_false (by omega)
    simp only [lit, q0, if_false]
    obtain ⟨Ta, e1, e2, e3⟩ := c_find20 ht (lX5_findWorths_11 Tt n) ho hp hh (show a < 6 by omega) 6 0 fu Tp (by omega) (fu_gt (by omega)) hT
    obtain ⟨Tb, f1, f2, f3⟩ := ih (a + 1) n Ta (by omega) (by omega) e2
    exact ⟨Tb, e1.trans f1, f2, fun c hc => by rw [f3 c hc, e3 c hc]⟩
theorem c_find (Tp : Gp) (ht : CT Tt τ) {p h : Nat} (ho : o < 2) (hp : p < tN τ) (hh : h < tH τ) : ∃ Ta, fX5_findWorths Tp Tt (nI o) (nI p) (nI h) = some Ta ∧ (∀ m, m < 41 → Ta 2 m = pI (Wf τ o (p * tH τ + h) 36 m)) ∧ ∀ c, c ≠ 2 → Ta c = Tp c := by
  unfold fX5_findWorths
  simp only [m1_eq]
  simp only [lit]
  obtain ⟨Ta, e1, e2, e3⟩ := c_find11 ht ho hp hh 6 0 fu (uc Tp 2 (ev_fill (Tp 2) 41 (-nI 1))) (by omega) (fu_gt (by omega)) (fun m hm => by
    rw [uc_ap, if_pos rfl, ev_fill_ap _ _ _ hm]
    rfl)
  exact ⟨Ta, e1, e2, fun c hc => by rw [e3 c hc]; funext i; rw [uc_ap, if_neg hc]⟩
/-- the rows from a place on are reckoned -/
def Pt (τ : TD) (o s : Nat) (Tp : Gp) : Prop := ∀ s', s ≤ s' → s' ≤ sS τ → ∀ r, r < 201 → Tp 1 ((o * 25 + s') * 201 + r) = pI (PV τ o (sS τ - s') r)
/-- nothing else of the planner has changed -/
def Fp (o : Nat) (Tp Ta : Gp) : Prop := ∀ c i, c ≠ 2 → ¬ (c = 1 ∧ o * 5025 ≤ i ∧ i < (o + 1) * 5025) → Ta c i = Tp c i
theorem Fp_t {A B C : Gp} (h : Fp o A B) (g : Fp o B C) : Fp o A C := fun c i e f => (g c i e f).trans (h c i e f)
theorem c_step (Tp : Gp) (ht : CT Tt τ) {p h : Nat} (ho : o < 2) (hp : p < tN τ) (hh : h < tH τ) (hs : p * tH τ + h < sS τ) (hS : sS τ ≤ 24) (hT : Pt τ o (p * tH τ + h + 1) Tp) : ∃ Ta Tb, fX5_findWorths Tp Tt (nI o) (nI p) (nI h) = some Ta ∧ fX5_rowOf Ta Tt (nI o) (nI p) (nI h) = some (nI ((o * 25 + (p * tH τ + h)) * 201)) ∧ fX5_reckonRow Ta (nI ((o * 25 + (p * tH τ + h)) * 201)) = some Tb ∧ Pt τ o (p * tH τ + h) Tb ∧ Fp o Tp Tb := by
  obtain ⟨Ta, e1, e2, e3⟩ := c_find Tp ht ho hp hh
  have nb : (o * 25 + (p * tH τ + h)) * 201 + 402 ≤ 10050 := by omega
  obtain ⟨Tb, f1, f2, f3⟩ := c_row Ta (B := PV τ o (sS τ - (p * tH τ + h + 1))) nb (fun m => Wf_le (o := o) ht.1 _ _ m) (PV_anti _) (fun r => by
    have := PV_le (o := o) ht.1 (sS τ - (p * tH τ + h + 1)) r
    omega) e2 (fun i hi => by
    rw [e3 1 (by omega), ← hT (p * tH τ + h + 1) (by omega) (by omega) i hi]
    congr 1
    omega)
  refine ⟨Ta, Tb, e1, ?_, f1, ?_, ?_⟩
  · have t1 : Tt 0 1 = nI (tH τ) := ht.2.2.1
    unfold fX5_rowOf
    rw [t1]
    simp only [lit, e_mul, e_add]
    rw [Nat.add_assoc]
  · intro s' h1 h2 r hr
    by_cases c : s' = p * tH τ + h
    · subst c
      rw [f2 r hr, RM_gP ht.1]
      rw [show sS τ - (p * tH τ + h) = sS τ - (p * tH τ + h + 1) + 1 by omega]
      show _ = pI (fo (gP τ o (sS τ - (sS τ - (p * tH τ + h + 1) + 1)) _ r) 36 0 0)
      rw [show sS τ - (sS τ - (p * tH τ + h + 1) + 1) = p * tH τ + h by omega]
    · rw [f3 1 _ (by omega), e3 1 (by omega)]
      exact hT s' (by omega) h2 r hr
  · intro c i hc hi
    rw [f3 c i (by omega), e3 c hc]
theorem xm_s (k : Nat) : nI k + -nI 1 = nI k - nI 1 := by rw [← Int32.sub_eq_add_neg]
theorem c_60 (ht : CT Tt τ) (rec46 : Gp → Int32 → Int32 → Option Gp) {p : Nat} (ho : o < 2) (hp : p < tN τ) (hS : (p + 1) * tH τ ≤ sS τ) (h24 : sS τ ≤ 24) : ∀ k n Tp, k ≤ tH τ → k < n → Pt τ o (p * tH τ + k) Tp → ∃ Ta, lX5_reckon_60 Tt rec46 n Tp (nI o) (nI p) (nI k - nI 1) = rec46 Ta (nI o) (nI p - nI 1) ∧ Pt τ o (p * tH τ) Ta ∧ Fp o Tp Ta := by
  have hmul : (p + 1) * tH τ = p * tH τ + tH τ := Nat.succ_mul _ _
  have hH := ht.1.2.1
  intro k
  induction k with
  | zero =>
    intro n Tp hk hn hT
    obtain ⟨n, rfl, -⟩ := gt_s hn
    rw [sX5_reckon_60]
    unfold fX5_reckon_60
    have q0 : (nI 0 - nI 1 < nI 0) = True := eq_true (by decide)
    simp only [m1_eq]
    simp only [lit, q0, if_true, xm_s]
    exact ⟨Tp, rfl, hT, fun c i _ _ => rfl⟩
  | succ k ih =>
    intro n Tp hk hn hT
    obtain ⟨n, rfl, hn⟩ := gt_s hn
    rw [sX5_reckon_60]
    unfold fX5_reckon_60
    have e0 : nI (k + 1) - nI 1 = nI k := by rw [e_sub (by omega)]; rfl
    have q0 : (nI k < nI 0) = False := by rw [e_lt (by omega) (by omega)]; exact eq_false (by omega)
    obtain ⟨Ta, Tb, e1, e2, e3, e4, e5⟩ := c_step Tp ht ho hp (show k < tH τ by omega) (by omega) h24 hT
    simp only [m1_eq]
    rw [e0]
    simp only [lit, q0, if_false, e1, e2, e3, bd1_s, xm_s]
    obtain ⟨Tc, g1, g2, g3⟩ := ih n Tb (by omega) (by omega) e4
    exact ⟨Tc, g1, g2, Fp_t e5 g3⟩
theorem c_46p (ht : CT Tt τ) (ho : o < 2) (h24 : sS τ ≤ 24) : ∀ k n Tp, k ≤ tN τ → k < n → Pt τ o (k * tH τ) Tp → ∃ Ta, lX5_reckon_46 Tt n Tp (nI o) (nI k - nI 1) = some Ta ∧ Pt τ o 0 Ta ∧ Fp o Tp Ta := by
  intro k
  induction k with
  | zero =>
    intro n Tp hk hn hT
    obtain ⟨n, rfl, -⟩ := gt_s hn
    rw [sX5_reckon_46]
    unfold fX5_reckon_46
    have q0 : (nI 0 - nI 1 < nI 0) = True := eq_true (by decide)
    simp only [lit, q0, if_true]
    rw [Nat.zero_mul] at hT
    exact ⟨Tp, rfl, hT, fun c i _ _ => rfl⟩
  | succ k ih =>
    intro n Tp hk hn hT
    obtain ⟨n, rfl, hn⟩ := gt_s hn
    have hN := ht.1.1
    have t1 : Tt 0 1 = nI (tH τ) := ht.2.2.1
    rw [sX5_reckon_46]
    unfold fX5_reckon_46
    have e0 : nI (k + 1) - nI 1 = nI k := by rw [e_sub (by omega)]; rfl
    have q0 : (nI k < nI 0) = False := by rw [e_lt (by omega) (by omega)]; exact eq_false (by omega)
    rw [e0]
    simp only [lit, q0, if_false, t1]
    have hle : (k + 1) * tH τ ≤ sS τ := Nat.mul_le_mul_right _ hk
    rw [Nat.succ_mul] at hT
    obtain ⟨Ta, e1, e2, e3⟩ := c_60 ht (lX5_reckon_46 Tt n) ho (show k < tN τ by omega) hle h24 (tH τ) fu Tp (by omega) (fu_gt (by have := ht.1.2.1; omega)) hT
    obtain ⟨Tb, f1, f2, f3⟩ := ih n Ta (by omega) (by omega) e2
    exact ⟨Tb, e1.trans f1, f2, Fp_t e3 f3⟩
theorem sS_24 (hw : TW τ) : sS τ ≤ 24 ∧ 1 ≤ sS τ := by
  have hN := hw.1
  have hH := hw.2.1
  unfold sS
  constructor
  · exact Nat.le_trans (Nat.mul_le_mul hN.2 hH.2) (by omega)
  · exact Nat.mul_pos hN.1 hH.1
theorem c_preckon (Tp : Gp) (ht : CT Tt τ) (ho : o < 2) : ∃ Ta, fX5_reckon Tp Tt (nI o) = some Ta ∧ Pt τ o 0 Ta ∧ Fp o Tp Ta := by
  have h24 := sS_24 ht.1
  have hN := ht.1.1
  have t0 : Tt 0 0 = nI (tN τ) := ht.2.1
  have t1 : Tt 0 1 = nI (tH τ) := ht.2.2.1
  have er : ∀ T, fX5_rowOf T Tt (nI o) (nI (tN τ)) (nI 0) = some (nI ((o * 25 + sS τ) * 201)) := by
    intro T
    unfold fX5_rowOf
    rw [t1]
    simp only [lit, e_mul, e_add]
    rfl
  obtain ⟨Ta, a1, a2, a3⟩ := c_clear (base := (o * 25 + sS τ) * 201) (by omega) 201 0 fu Tp (by omega) (fu_gt (by omega))
  obtain ⟨Tb, b1, b2, b3⟩ := c_offer Ta (base := (o * 25 + sS τ) * 201) (r := 0) (w := 0) (x := 0) (by omega) (by omega) (by omega) (a2 0 (by omega) (by omega))
  obtain ⟨Tc, c1, c2, c3⟩ := c_46p ht ho h24.1 (tN τ) fu Tb (by omega) (fu_gt (by omega)) (by
    intro s' h1 h2 r hr
    have es : s' = sS τ := Nat.le_antisymm h2 h1
    subst es
    rw [Nat.sub_self]
    show _ = pI (if r = 0 then 1 else 0)
    by_cases c : r = 0
    · rw [if_pos c, c]; exact b2
    · rw [if_neg c, b3 1 _ (by omega)]
      exact a2 r (by omega) hr)
  refine ⟨Tc, ?_, c2, fun c i hc hi => ?_⟩
  · unfold fX5_reckon fX5_clearRow
    rw [t0]
    simp only [lit, er, bd1_s, a1, b1]
    exact c1
  · rw [c3 c i hc hi, b3 c i (by omega), a3 c i (by omega)]
/-- the planner: what it has reckoned holds -/
def PR (Tp : Gp) (τ : TD) : Prop := ∀ o, o < 2 → Tp 3 o = nI 0 ∨ (Tp 3 o = nI 1 ∧ Pt τ o 0 Tp)
theorem c_great (Tp : Gp) (ht : CT Tt τ) (hp : PR Tp τ) (ho : o < 2) {r : Nat} (hr : r < 201) : ∃ Ta, fX5_greatestWorth Tp Tt (nI o) (nI r) = some (pI (PV τ o (sS τ) r), Ta) ∧ PR Ta τ ∧ Pt τ o 0 Ta := by
  have h24 := sS_24 ht.1
  have t1 : Tt 0 1 = nI (tH τ) := ht.2.2.1
  have w1 : fX10_within (nI o) (nI 0) (nI 1) = some (bI true) := by
    rw [show (1 : Nat) = 2 - 1 from rfl, within_ok (by omega) (by omega), ok_nI (by omega) (by omega)]
  have q : (ix (nI o) 2) = True := by rw [e_ix (by omega)]; exact eq_true (by omega)
  have z := cl_nI (show o < 2 ^ 31 by omega)
  have fin : ∀ Tb, Fp o Tp Tb → Pt τ o 0 Tb → ∃ Ta, fX5_greatestWorth_25 Tt Tb (nI o) (nI r) = some (pI (PV τ o (sS τ) r), Ta) ∧ PR Ta τ ∧ Pt τ o 0 Ta := by
    intro Tb hf ht
    have e1 : u2 Tb 3 o (nI 1) 1 = Tb 1 := u2_c (by omega)
    have pt : Pt τ o 0 (u2 Tb 3 o (nI 1)) := by
      unfold Pt at ht ⊢
      rw [e1]; exact ht
    refine ⟨u2 Tb 3 o (nI 1), ?_, ?_, pt⟩
    · unfold fX5_greatestWorth_25 fX5_rowOf
      simp only [lit, q, if_true, z, nar1, bd1_s, t1, e_mul, e_add]
      rw [c_bestFrom (r := r) _ (by rw [e_imx (by omega) (by omega), Nat.max_eq_left (Nat.zero_le _)]) (by omega)]
      simp only [bd1_s]
      rw [show (o * 25 + 0 * tH τ + 0) * 201 = (o * 25 + 0) * 201 by omega, pt 0 (by omega) (by omega) r hr]
      rfl
    · intro o' ho'
      by_cases c : o' = o
      · right
        rw [c]
        exact ⟨u2_same _ _ _ _, pt⟩
      · rcases hp o' ho' with h | ⟨h, g⟩
        · left
          rw [u2_ap, if_neg (by omega), hf 3 o' (by omega) (by omega)]
          exact h
        · right
          refine ⟨?_, fun s' h1 h2 r' hr' => ?_⟩
          · rw [u2_ap, if_neg (by omega), hf 3 o' (by omega) (by omega)]
            exact h
          · rw [e1, hf 1 _ (by omega) (by omega)]
            exact g s' h1 h2 r' hr'
  unfold fX5_greatestWorth
  simp only [lit, w1, bd1_s, bI_0, Bool.true_eq_false, if_false, q, if_true, z]
  rcases hp o ho with h | ⟨h, g⟩
  · obtain ⟨Tb, e1, e2, e3⟩ := c_preckon Tp ht ho
    simp only [h, if_true, e1, bd1_s]
    exact fin Tb e3 e2
  · have q1 : (nI 1 = nI 0) = False := by rw [e_eq (by omega) (by omega)]; exact eq_false (by omega)
    simp only [h, q1, if_false]
    exact fin Tp (fun c i _ _ => rfl) g
end PLD
