/-! the first plan -/
def fi (g : Nat → Nat) (v : Nat) : Nat → Nat → Nat
  | 0, i => i
  | n + 1, i => if g i = v then i else fi g v n (i + 1)
theorem fi_of (g : Nat → Nat) (v : Nat) : ∀ n i j, i ≤ j → j < i + n → g j = v → i ≤ fi g v n i ∧ fi g v n i ≤ j ∧ g (fi g v n i) = v ∧ ∀ k, i ≤ k → k < fi g v n i → g k ≠ v := by
  intro n
  induction n with
  | zero => intro i j h1 h2; omega
  | succ n ih =>
    intro i j h1 h2 h3
    show i ≤ (if g i = v then i else fi g v n (i + 1)) ∧ (if g i = v then i else fi g v n (i + 1)) ≤ j ∧ g (if g i = v then i else fi g v n (i + 1)) = v ∧ ∀ k, i ≤ k → k < (if g i = v then i else fi g v n (i + 1)) → g k ≠ v
    by_cases c : g i = v
    · rw [if_pos c]
      exact ⟨Nat.le_refl _, h1, c, fun k a b => by omega⟩
    · rw [if_neg c]
      have hj : j ≠ i := fun e => c (by rw [← e]; exact h3)
      obtain ⟨a1, a2, a3, a4⟩ := ih (i + 1) j (by omega) (by omega) h3
      refine ⟨by omega, a2, a3, fun k b1 b2 => ?_⟩
      by_cases d : k = i
      · rw [d]; exact c
      · exact a4 k (by omega) b2
section PATH
variable {τ : TD} {o w : Nat}
def gS (τ : TD) (o s r : Nat) : Nat → Nat := gP τ o s (PV τ o (sS τ - (s + 1))) r
def ck (τ : TD) (o s r : Nat) : Nat := fi (gS τ o s r) (PV τ o (sS τ - s) r) 36 0
def md (τ : TD) (o w : Nat) : Nat → Nat
  | 0 => 0
  | s + 1 => md τ o w s + mk τ s (ck τ o s (w - md τ o w s))
def cK (τ : TD) (o w s : Nat) : Nat := ck τ o s (w - md τ o w s)
theorem PV_e {s : Nat} (hs : s < sS τ) (r : Nat) : PV τ o (sS τ - s) r = fo (gS τ o s r) 36 0 0 := by
  rw [show sS τ - s = sS τ - (s + 1) + 1 by omega]
  show fo (gP τ o (sS τ - (sS τ - (s + 1) + 1)) _ r) 36 0 0 = _
  rw [show sS τ - (sS τ - (s + 1) + 1) = s by omega]
  rfl
theorem ck_ok {s r : Nat} (hs : s < sS τ) (h : PV τ o (sS τ - s) r ≠ 0) : ck τ o s r < 36 ∧ gS τ o s r (ck τ o s r) = PV τ o (sS τ - s) r ∧ al τ o s (ck τ o s r) = true ∧ PV τ o (sS τ - (s + 1)) (r - mk τ s (ck τ o s r)) ≠ 0 ∧ ∀ k, k < ck τ o s r → gS τ o s r k ≠ PV τ o (sS τ - s) r := by
  have e := PV_e hs (o := o) r
  obtain ⟨j, hj, ej⟩ : ∃ j, j < 36 ∧ gS τ o s r j = PV τ o (sS τ - s) r := by
    rcases fo_or (gS τ o s r) 36 0 0 with c | ⟨y, h1, h2, h3⟩
    · exact absurd (e.trans c) h
    · exact ⟨y, by omega, by rw [e, h3]⟩
  obtain ⟨a1, a2, a3, a4⟩ := fi_of (gS τ o s r) (PV τ o (sS τ - s) r) 36 0 j (Nat.zero_le _) (by omega) ej
  have a3' : gS τ o s r (ck τ o s r) = PV τ o (sS τ - s) r := a3
  have hlt : ck τ o s r < 36 := Nat.lt_of_le_of_lt a2 hj
  have hal : al τ o s (ck τ o s r) = true := by
    cases c : al τ o s (ck τ o s r)
    · exfalso
      unfold gS gP at a3'
      rw [c, if_neg (by simp)] at a3'
      exact h a3'.symm
    · rfl
  refine ⟨hlt, a3', hal, fun z => ?_, fun k hk => a4 k (Nat.zero_le _) hk⟩
  unfold gS gP at a3'
  rw [hal, if_pos rfl, z] at a3'
  exact h a3'.symm
theorem md_ok (h : PV τ o (sS τ) w ≠ 0) : ∀ s, s ≤ sS τ → PV τ o (sS τ - s) (w - md τ o w s) ≠ 0 := by
  intro s
  induction s with
  | zero => intro _; exact h
  | succ s ih =>
    intro hs
    have a := (ck_ok (by omega) (ih (by omega))).2.2.2.1
    show PV τ o (sS τ - (s + 1)) (w - (md τ o w s + mk τ s (ck τ o s (w - md τ o w s)))) ≠ 0
    rw [← Nat.sub_sub w]
    exact a
theorem md_le (hw : TW τ) : ∀ s, md τ o w s ≤ 40 * s := by
  intro s
  induction s with
  | zero => exact Nat.le_refl _
  | succ s ih =>
    show md τ o w s + _ ≤ _
    have := mk_le hw s (ck τ o s (w - md τ o w s))
    omega
end PATH
section PLE
variable {Tt : Gp} {τ : TD} {o w : Nat}
theorem c_ch31 (ht : CT Tt τ) (rec22 : Gp → Int32 → Int32 → Int32 → Int32 → Int32 → Int32 → Int32 → Option Gp) (Tp : Gp) {p h r a b v : Nat} (n : Nat) (ho : o < 2) (hp : p < tN τ) (hh : h < tH τ) (hs : p * tH τ + h < sS τ) (ha : a < 6) (hb : b < 6) (hr : r < 201) (hT : Pt τ o 0 Tp) (hv : v = PV τ o (sS τ - (p * tH τ + h)) r) (hv0 : v ≠ 0) : lX5_choose_31 Tt rec22 (n + 1) Tp (nI o) (nI p) (nI h) (nI r) (nI ((o * 25 + (p * tH τ + h)) * 201)) (pI v) (nI a) (nI b) = if gS τ o (p * tH τ + h) r (6 * a + b) = v then some (u2 (u2 Tp 0 4 (nI a)) 0 5 (nI b)) else lX5_choose_31 Tt rec22 n Tp (nI o) (nI p) (nI h) (nI r) (nI ((o * 25 + (p * tH τ + h)) * 201)) (pI v) (nI a) (nI (b + 1)) := by
  have h24 := sS_24 ht.1
  have vb : v ≤ 40 * 24 + 1 := by
    rw [hv]
    have := PV_le (o := o) ht.1 (sS τ - (p * tH τ + h)) r
    omega
  rw [sX5_choose_31]
  unfold fX5_choose_31
  have q0 : (nI 5 < nI b) = False := by rw [e_lt (by omega) (by omega)]; exact eq_false (by omega)
  simp only [m1_eq]
  simp only [lit, q0, if_false, c_isAllowed Tp ht ho hp hh ha hb, bd1_s, bI_0, e_add]
  cases hal : al τ o (p * tH τ + h) (6 * a + b)
  · rw [if_pos rfl, if_neg]
    unfold gS gP
    rw [hal, if_neg (by simp)]
    exact fun e => hv0 e.symm
  · rw [if_neg (by simp)]
    have ml := mk_le ht.1 (p * tH τ + h) (6 * a + b)
    have wl := ww_le ht.1 (6 * a + b)
    have bl := PV_le (o := o) ht.1 (sS τ - (p * tH τ + h + 1)) (r - mk τ (p * tH τ + h) (6 * a + b))
    have tb : Tp 1 ((o * 25 + (p * tH τ + h)) * 201 + 201 + (r - mk τ (p * tH τ + h) (6 * a + b))) = pI (PV τ o (sS τ - (p * tH τ + h + 1)) (r - mk τ (p * tH τ + h) (6 * a + b))) := by
      rw [← hT (p * tH τ + h + 1) (by omega) (by omega) _ (by omega)]
      congr 1
      omega
    have gd : gS τ o (p * tH τ + h) r (6 * a + b) = up (PV τ o (sS τ - (p * tH τ + h + 1)) (r - mk τ (p * tH τ + h) (6 * a + b))) (ww τ (6 * a + b)) := by
      unfold gS gP
      rw [if_pos hal]
    rw [gd]
    simp only [c_madeBy Tp ht hp hh ha hb hal, bd1_s]
    rw [c_bestFrom (r := r - mk τ (p * tH τ + h) (6 * a + b)) Tp (e_sbm (by omega) (by omega)) (by omega), tb]
    simp only [bd1_s, pI_m1 (show PV τ o (sS τ - (p * tH τ + h + 1)) (r - mk τ (p * tH τ + h) (6 * a + b)) < 2 ^ 30 by omega), c_pworth Tp ht ha hb]
    by_cases c : PV τ o (sS τ - (p * tH τ + h + 1)) (r - mk τ (p * tH τ + h) (6 * a + b)) = 0
    · simp only [eq_true c, if_true]
      rw [if_neg]
      unfold up
      rw [if_pos c]
      exact fun e => hv0 e.symm
    · simp only [eq_false c, if_false]
      rw [pI_pos (show 0 < PV τ o (sS τ - (p * tH τ + h + 1)) (r - mk τ (p * tH τ + h) (6 * a + b)) by omega), e_add, pI_pos (show 0 < v by omega), if_eqn (by omega) (by omega)]
      unfold up
      rw [if_neg c]
      by_cases d : PV τ o (sS τ - (p * tH τ + h + 1)) (r - mk τ (p * tH τ + h) (6 * a + b)) + ww τ (6 * a + b) = v
      · rw [if_pos (by omega), if_pos d]
      · rw [if_neg (by omega), if_neg d]
theorem c_choose (ht : CT Tt τ) (Tp : Gp) {p h r : Nat} (ho : o < 2) (hp : p < tN τ) (hh : h < tH τ) (hs : p * tH τ + h < sS τ) (hr : r < 201) (hT : Pt τ o 0 Tp) (hv0 : PV τ o (sS τ - (p * tH τ + h)) r ≠ 0) : fX5_choose Tp Tt (nI o) (nI p) (nI h) (nI r) = some (u2 (u2 Tp 0 4 (nI (ck τ o (p * tH τ + h) r / 6))) 0 5 (nI (ck τ o (p * tH τ + h) r % 6))) := by
  have h24 := sS_24 ht.1
  obtain ⟨c1, c2, -, -, c5⟩ := ck_ok hs hv0
  have t1 : Tt 0 1 = nI (tH τ) := ht.2.2.1
  have er : fX5_rowOf Tp Tt (nI o) (nI p) (nI h) = some (nI ((o * 25 + (p * tH τ + h)) * 201)) := by
    unfold fX5_rowOf
    rw [t1]
    simp only [lit, e_mul, e_add]
    rw [Nat.add_assoc]
  have inA : ∀ rec22, ∀ k a b n, b + k = 6 → k < n → 6 * a + 6 ≤ ck τ o (p * tH τ + h) r → lX5_choose_31 Tt rec22 n Tp (nI o) (nI p) (nI h) (nI r) (nI ((o * 25 + (p * tH τ + h)) * 201)) (pI (PV τ o (sS τ - (p * tH τ + h)) r)) (nI a) (nI b) = rec22 Tp (nI o) (nI p) (nI h) (nI r) (nI ((o * 25 + (p * tH τ + h)) * 201)) (pI (PV τ o (sS τ - (p * tH τ + h)) r)) (nI (a + 1)) := by
    intro rec22 k
    induction k with
    | zero =>
      intro a b n hk hn hle
      obtain ⟨n, rfl, -⟩ := gt_s hn
      rw [sX5_choose_31]
      unfold fX5_choose_31
      have q0 : (nI 5 < nI b) = True := by rw [e_lt (by omega) (by omega)]; exact eq_true (by omega)
      simp only [lit, q0, if_true, e_add]
    | succ k ih =>
      intro a b n hk hn hle
      obtain ⟨n, rfl, hn⟩ := gt_s hn
      rw [c_ch31 ht rec22 Tp n ho hp hh hs (by omega) (by omega) hr hT rfl hv0, if_neg (c5 _ (by omega))]
      exact ih a (b + 1) n (by omega) (by omega) hle
  have inB : ∀ rec22, ∀ k b n, b + k = ck τ o (p * tH τ + h) r % 6 → k < n → lX5_choose_31 Tt rec22 n Tp (nI o) (nI p) (nI h) (nI r) (nI ((o * 25 + (p * tH τ + h)) * 201)) (pI (PV τ o (sS τ - (p * tH τ + h)) r)) (nI (ck τ o (p * tH τ + h) r / 6)) (nI b) = some (u2 (u2 Tp 0 4 (nI (ck τ o (p * tH τ + h) r / 6))) 0 5 (nI (ck τ o (p * tH τ + h) r % 6))) := by
    intro rec22 k
    induction k with
    | zero =>
      intro b n hk hn
      obtain ⟨n, rfl, -⟩ := gt_s hn
      have eb : b = ck τ o (p * tH τ + h) r % 6 := by omega
      rw [c_ch31 ht rec22 Tp n ho hp hh hs (by omega) (by omega) hr hT rfl hv0, show 6 * (ck τ o (p * tH τ + h) r / 6) + b = ck τ o (p * tH τ + h) r by omega, if_pos c2, eb]
    | succ k ih =>
      intro b n hk hn
      obtain ⟨n, rfl, hn⟩ := gt_s hn
      rw [c_ch31 ht rec22 Tp n ho hp hh hs (by omega) (by omega) hr hT rfl hv0, if_neg (c5 _ (by omega))]
      exact ih (b + 1) n (by omega) (by omega)
  have outr : ∀ k a n, a + k = ck τ o (p * tH τ + h) r / 6 → k < n → lX5_choose_22 Tt n Tp (nI o) (nI p) (nI h) (nI r) (nI ((o * 25 + (p * tH τ + h)) * 201)) (pI (PV τ o (sS τ - (p * tH τ + h)) r)) (nI a) = some (u2 (u2 Tp 0 4 (nI (ck τ o (p * tH τ + h) r / 6))) 0 5 (nI (ck τ o (p * tH τ + h) r % 6))) := by
    intro k
    induction k with
    | zero =>
      intro a n hk hn
      obtain ⟨n, rfl, -⟩ := gt_s hn
      rw [sX5_choose_22]
      unfold fX5_choose_22
      have q0 : (nI 5 < nI a) = False := by rw [e_lt (by omega) (by omega)]; exact eq_false (by omega)
      simp only [lit, q0, if_false]
      have ea : a = ck τ o (p * tH τ + h) r / 6 := by omega
      rw [ea]
      exact inB _ _ 0 fu (Nat.zero_add _) (fu_gt (by omega))
    | succ k ih =>
      intro a n hk hn
      obtain ⟨n, rfl, hn⟩ := gt_s hn
      rw [sX5_choose_22]
      unfold fX5_choose_22
      have q0 : (nI 5 < nI a) = False := by rw [e_lt (by omega) (by omega)]; exact eq_false (by omega)
      simp only [lit, q0, if_false]
      rw [inA _ 6 a 0 fu (by omega) (fu_gt (by omega)) (by omega)]
      exact ih (a + 1) n (by omega) (by omega)
  unfold fX5_choose
  simp only [lit, er, bd1_s]
  rw [c_bestFrom (r := r) Tp (by rw [e_imx (by omega) (by omega), Nat.max_eq_left (Nat.zero_le _)]) (by omega), hT _ (Nat.zero_le _) (by omega) r hr]
  simp only [bd1_s]
  exact outr _ 0 fu (Nat.zero_add _) (fu_gt (by omega))
/-- the planner behind a place -/
def At (τ : TD) (o w s : Nat) (Tp Ta : Gp) : Prop := (∀ c, c ≠ 0 → Ta c = Tp c) ∧ (1 ≤ s → Ta 0 4 = nI (cK τ o w (s - 1) / 6) ∧ Ta 0 5 = nI (cK τ o w (s - 1) % 6))
theorem c_f37 (ht : CT Tt τ) (T0 : Gp) (rec6 : Gp → Int32 → Int32 → Int32 → Int32 → Int32 → Int32 → Option (Int32 × Gp)) (x3 x4 : Int32) {p hx : Nat} (ho : o < 2) (hp : p < tN τ) (hhx : hx ≤ tH τ) (hs : p * tH τ + hx ≤ sS τ) (hw2 : w < 201) (hT : Pt τ o 0 T0) (hv0 : PV τ o (sS τ) w ≠ 0) : ∀ k h n Tp, h + k = hx → k < n → At τ o w (p * tH τ + h) T0 Tp → ∃ Ta, lX5_follow_37 Tt rec6 n Tp (nI o) (nI w) x3 x4 (nI (md τ o w (p * tH τ + h))) (nI p) (nI hx) (nI h) = rec6 Ta (nI o) (nI w) x3 x4 (nI (md τ o w (p * tH τ + hx))) (nI (p + 1)) ∧ At τ o w (p * tH τ + hx) T0 Ta := by
  have hH := ht.1.2.1
  have hN := ht.1.1
  have h24 := sS_24 ht.1
  intro k
  induction k with
  | zero =>
    intro h n Tp hk hn a
    obtain ⟨n, rfl, -⟩ := gt_s hn
    rw [sX5_follow_37]
    unfold fX5_follow_37
    have q0 : (nI hx ≤ nI h) = True := by rw [e_le (by omega) (by omega)]; exact eq_true (by omega)
    simp only [lit, q0, if_true, e_add]
    have e : h = hx := by omega
    subst e
    exact ⟨Tp, rfl, a⟩
  | succ k ih =>
    intro h n Tp hk hn a
    obtain ⟨n, rfl, hn⟩ := gt_s hn
    rw [sX5_follow_37]
    unfold fX5_follow_37
    have q0 : (nI hx ≤ nI h) = False := by rw [e_le (by omega) (by omega)]; exact eq_false (by omega)
    have ml := md_le (o := o) (w := w) ht.1 (p * tH τ + h)
    have pt : Pt τ o 0 Tp := by
      unfold Pt at hT ⊢
      rw [a.1 1 (by omega)]
      exact hT
    have v0 := md_ok hv0 (p * tH τ + h) (by omega)
    have ch := c_choose ht Tp ho hp (show h < tH τ by omega) (by omega) (show w - md τ o w (p * tH τ + h) < 201 by omega) pt v0
    have ok := ck_ok (by omega) v0
    have hck : ck τ o (p * tH τ + h) (w - md τ o w (p * tH τ + h)) = cK τ o w (p * tH τ + h) := rfl
    rw [hck] at ch ok
    have mb := c_madeBy (u2 (u2 Tp 0 4 (nI (cK τ o w (p * tH τ + h) / 6))) 0 5 (nI (cK τ o w (p * tH τ + h) % 6))) ht hp (show h < tH τ by omega) (show cK τ o w (p * tH τ + h) / 6 < 6 by omega) (show cK τ o w (p * tH τ + h) % 6 < 6 by omega) (o := o) (by
      rw [show 6 * (cK τ o w (p * tH τ + h) / 6) + cK τ o w (p * tH τ + h) % 6 = cK τ o w (p * tH τ + h) by omega]
      exact ok.2.2.1)
    rw [show 6 * (cK τ o w (p * tH τ + h) / 6) + cK τ o w (p * tH τ + h) % 6 = cK τ o w (p * tH τ + h) by omega] at mb
    have g4 : u2 (u2 Tp 0 4 (nI (cK τ o w (p * tH τ + h) / 6))) 0 5 (nI (cK τ o w (p * tH τ + h) % 6)) 0 4 = nI (cK τ o w (p * tH τ + h) / 6) := by
      rw [u2_ap, if_neg (by omega), u2_same]
    have g5 : u2 (u2 Tp 0 4 (nI (cK τ o w (p * tH τ + h) / 6))) 0 5 (nI (cK τ o w (p * tH τ + h) % 6)) 0 5 = nI (cK τ o w (p * tH τ + h) % 6) := u2_same _ _ _ _
    simp only [lit, q0, if_false]
    rw [e_sbm (by omega) (by omega), ch]
    simp only [bd1_s, g4, g5]
    rw [mb]
    simp only [bd1_s, e_add]
    have st : md τ o w (p * tH τ + h) + mk τ (p * tH τ + h) (cK τ o w (p * tH τ + h)) = md τ o w (p * tH τ + (h + 1)) := rfl
    rw [st]
    exact ih (h + 1) n _ (by omega) (by omega) ⟨fun c hc => by rw [u2_c hc, u2_c hc]; exact a.1 c hc, fun _ => ⟨g4, g5⟩⟩
theorem c_f6 (ht : CT Tt τ) (T0 : Gp) {lp lh : Nat} (ho : o < 2) (hlp : lp < tN τ) (hlh : lh < tH τ) (hw2 : w < 201) (hT : Pt τ o 0 T0) (hv0 : PV τ o (sS τ) w ≠ 0) : ∀ k p n Tp, p + k = lp → k + 1 < n → At τ o w (p * tH τ) T0 Tp → ∃ Ta, lX5_follow_6 Tt n Tp (nI o) (nI w) (nI lp) (nI lh) (nI (md τ o w (p * tH τ))) (nI p) = some (nI (md τ o w (lp * tH τ + lh + 1)), Ta) ∧ At τ o w (lp * tH τ + lh + 1) T0 Ta := by
  have hH := ht.1.2.1
  have hN := ht.1.1
  have t1 : Tt 0 1 = nI (tH τ) := ht.2.2.1
  intro k
  induction k with
  | zero =>
    intro p n Tp hk hn a
    obtain ⟨n, rfl, hn⟩ := gt_s hn
    obtain ⟨n, rfl, hn⟩ := gt_s (show 0 < n by omega)
    have e : p = lp := by omega
    subst e
    rw [sX5_follow_6]
    unfold fX5_follow_6
    have q0 : (nI p < nI p) = False := by rw [e_lt (by omega) (by omega)]; exact eq_false (by omega)
    simp only [lit, q0, if_false, if_true, e_add]
    have le : (p + 1) * tH τ ≤ sS τ := Nat.mul_le_mul_right _ hlp
    rw [Nat.succ_mul] at le
    obtain ⟨Ta, e1, e2⟩ := c_f37 ht T0 (lX5_follow_6 Tt (n + 1)) (nI p) (nI lh) (hx := lh + 1) ho hlp (by omega) (by omega) hw2 hT hv0 (lh + 1) 0 fu Tp (by omega) (fu_gt (by omega)) a
    refine ⟨Ta, e1.trans ?_, e2⟩
    rw [sX5_follow_6]
    unfold fX5_follow_6
    rw [if_pos (by rw [e_lt (by omega) (by omega)]; omega)]
    rfl
  | succ k ih =>
    intro p n Tp hk hn a
    obtain ⟨n, rfl, hn⟩ := gt_s hn
    rw [sX5_follow_6]
    unfold fX5_follow_6
    have q0 : (nI lp < nI p) = False := by rw [e_lt (by omega) (by omega)]; exact eq_false (by omega)
    have q1 : (nI p = nI lp) = False := by rw [e_eq (by omega) (by omega)]; exact eq_false (by omega)
    simp only [lit, q0, q1, if_false, t1]
    have le : (p + 1) * tH τ ≤ sS τ := Nat.mul_le_mul_right _ (by omega)
    rw [Nat.succ_mul] at le
    obtain ⟨Ta, e1, e2⟩ := c_f37 ht T0 (lX5_follow_6 Tt n) (nI lp) (nI lh) (hx := tH τ) ho (show p < tN τ by omega) (by omega) le hw2 hT hv0 (tH τ) 0 fu Tp (by omega) (fu_gt (by omega)) a
    rw [← Nat.succ_mul] at e1 e2
    obtain ⟨Tb, f1, f2⟩ := ih (p + 1) n Ta (by omega) (by omega) e2
    exact ⟨Tb, e1.trans f1, f2⟩
theorem c_follow (ht : CT Tt τ) (Tp : Gp) {lp lh : Nat} (ho : o < 2) (hlp : lp < tN τ) (hlh : lh < tH τ) (hw2 : w < 201) (hT : Pt τ o 0 Tp) (hv0 : PV τ o (sS τ) w ≠ 0) : ∃ Ta, fX5_follow Tp Tt (nI o) (nI w) (nI lp) (nI lh) = some (nI (md τ o w (lp * tH τ + lh + 1)), Ta) ∧ (∀ c, c ≠ 0 → Ta c = Tp c) ∧ Ta 0 4 = nI (cK τ o w (lp * tH τ + lh) / 6) ∧ Ta 0 5 = nI (cK τ o w (lp * tH τ + lh) % 6) := by
  have hN := ht.1.1
  obtain ⟨Ta, e1, e2⟩ := c_f6 ht Tp ho hlp hlh hw2 hT hv0 lp 0 fu Tp (by omega) (fu_gt (by omega)) ⟨fun c _ => rfl, fun h => by rw [Nat.zero_mul] at h; omega⟩
  have e3 := e2.2 (by omega)
  refine ⟨Ta, ?_, e2.1, e3.1, e3.2⟩
  unfold fX5_follow
  simp only [lit]
  rw [Nat.zero_mul] at e1
  exact e1
end PLE
