section TREATY
variable {Tx Tm Tk Tl Tv Tt Tp Td Te Ta Tb : Gp} {len : Nat} {t : Nat → Nat} {τ : TD}
theorem c_bl123 (To : Gp) : ∀ k i n Tt, i + k = 96 → k < n → ∃ Ta, lX9_becomeLike_123 To n Tt (nI i) = some Ta ∧ (∀ j, i ≤ j → j < 96 → Ta 5 j = To 5 j) ∧ ∀ c j, ¬ (c = 5 ∧ i ≤ j ∧ j < 96) → Ta c j = Tt c j := by
  intro k
  induction k with
  | zero =>
    intro i n Tt hk hn
    obtain ⟨n, rfl, -⟩ := gt_s hn
    rw [sX9_becomeLike_123]
    unfold fX9_becomeLike_123
    have q0 : (nI 96 ≤ nI i) = True := by rw [e_le (by omega) (by omega)]; exact eq_true (by omega)
    simp only [lit, q0, if_true]
    exact ⟨Tt, rfl, fun j h1 h2 => by omega, fun c j _ => rfl⟩
  | succ k ih =>
    intro i n Tt hk hn
    obtain ⟨n, rfl, hn⟩ := gt_s hn
    rw [sX9_becomeLike_123]
    unfold fX9_becomeLike_123
    have q0 : (nI 96 ≤ nI i) = False := by rw [e_le (by omega) (by omega)]; exact eq_false (by omega)
    have q : (ix (nI i) 96) = True := by rw [e_ix (by omega)]; exact eq_true (by omega)
    simp only [lit, q0, q, if_true, if_false, e_add, cl_nI (show i < 2 ^ 31 by omega)]
    obtain ⟨Ta, a1, a2, a3⟩ := ih (i + 1) n (u2 Tt 5 i (To 5 i)) (by omega) (by omega)
    refine ⟨Ta, a1, fun j h1 h2 => ?_, fun c j h => ?_⟩
    · by_cases d : j = i
      · rw [a3 5 j (by omega), d, u2_same]
      · exact a2 j (by omega) h2
    · rw [a3 c j (by omega), u2_ap, if_neg (by omega)]
theorem c_bl97 (To : Gp) : ∀ k i n Tt, i + k = 10 → k < n → ∃ Ta, lX9_becomeLike_97 To n Tt (nI i) = some Ta ∧ (∀ j, i ≤ j → j < 10 → Ta 3 j = To 3 j) ∧ (∀ j, j < 96 → Ta 5 j = To 5 j) ∧ ∀ c j, ¬ (c = 3 ∧ i ≤ j ∧ j < 10) → c ≠ 5 → Ta c j = Tt c j := by
  intro k
  induction k with
  | zero =>
    intro i n Tt hk hn
    obtain ⟨n, rfl, -⟩ := gt_s hn
    rw [sX9_becomeLike_97]
    unfold fX9_becomeLike_97
    have q0 : (nI 10 ≤ nI i) = True := by rw [e_le (by omega) (by omega)]; exact eq_true (by omega)
    simp only [lit, q0, if_true]
    obtain ⟨Ta, a1, a2, a3⟩ := c_bl123 To 96 0 fu Tt (by omega) (fu_gt (by omega))
    exact ⟨Ta, a1, fun j h1 h2 => by omega, fun j hj => a2 j (by omega) hj, fun c j _ h => a3 c j (by omega)⟩
  | succ k ih =>
    intro i n Tt hk hn
    obtain ⟨n, rfl, hn⟩ := gt_s hn
    rw [sX9_becomeLike_97]
    unfold fX9_becomeLike_97
    have q0 : (nI 10 ≤ nI i) = False := by rw [e_le (by omega) (by omega)]; exact eq_false (by omega)
    have q : (ix (nI i) 10) = True := by rw [e_ix (by omega)]; exact eq_true (by omega)
    simp only [lit, q0, q, if_true, if_false, e_add, cl_nI (show i < 2 ^ 31 by omega)]
    obtain ⟨Ta, a1, a2, a3, a4⟩ := ih (i + 1) n (u2 Tt 3 i (To 3 i)) (by omega) (by omega)
    refine ⟨Ta, a1, fun j h1 h2 => ?_, a3, fun c j h h' => ?_⟩
    · by_cases d : j = i
      · rw [a4 3 j (by omega) (by omega), d, u2_same]
      · exact a2 j (by omega) h2
    · rw [a4 c j (by omega) h', u2_ap, if_neg (by omega)]
theorem c_bl60 (To : Gp) : ∀ k i n Tt, i + k = 5 → k < n → ∃ Ta, lX9_becomeLike_60 To n Tt (nI i) = some Ta ∧ (∀ j, i ≤ j → j < 5 → Ta 2 j = To 2 j ∧ Ta 4 j = To 4 j) ∧ (∀ j, j < 10 → Ta 3 j = To 3 j) ∧ (∀ j, j < 96 → Ta 5 j = To 5 j) ∧ ∀ c j, ¬ ((c = 2 ∨ c = 4) ∧ i ≤ j ∧ j < 5) → c ≠ 3 → c ≠ 5 → Ta c j = Tt c j := by
  intro k
  induction k with
  | zero =>
    intro i n Tt hk hn
    obtain ⟨n, rfl, -⟩ := gt_s hn
    rw [sX9_becomeLike_60]
    unfold fX9_becomeLike_60
    have q0 : (nI 5 ≤ nI i) = True := by rw [e_le (by omega) (by omega)]; exact eq_true (by omega)
    simp only [lit, q0, if_true]
    obtain ⟨Ta, a1, a2, a3, a4⟩ := c_bl97 To 10 0 fu Tt (by omega) (fu_gt (by omega))
    exact ⟨Ta, a1, fun j h1 h2 => by omega, fun j hj => a2 j (by omega) hj, a3, fun c j _ h h' => a4 c j (by omega) h'⟩
  | succ k ih =>
    intro i n Tt hk hn
    obtain ⟨n, rfl, hn⟩ := gt_s hn
    rw [sX9_becomeLike_60]
    unfold fX9_becomeLike_60
    have q0 : (nI 5 ≤ nI i) = False := by rw [e_le (by omega) (by omega)]; exact eq_false (by omega)
    have q : (ix (nI i) 5) = True := by rw [e_ix (by omega)]; exact eq_true (by omega)
    simp only [lit, q0, q, if_true, if_false, e_add, cl_nI (show i < 2 ^ 31 by omega)]
    obtain ⟨Ta, a1, a2, a3, a4, a5⟩ := ih (i + 1) n (u2 (u2 Tt 2 i (To 2 i)) 4 i (To 4 i)) (by omega) (by omega)
    refine ⟨Ta, a1, fun j h1 h2 => ?_, a3, a4, fun c j h h' h'' => ?_⟩
    · by_cases d : j = i
      · rw [a5 2 j (by omega) (by omega) (by omega), a5 4 j (by omega) (by omega) (by omega), d]
        exact ⟨by rw [u2_ap, if_neg (by omega), u2_same], u2_same _ _ _ _⟩
      · exact a2 j (by omega) h2
    · rw [a5 c j (by omega) h' h'', u2_ap, if_neg (by omega), u2_ap, if_neg (by omega)]
theorem c_bl34 (To : Gp) : ∀ k i n Tt, i + k = 6 → k < n → ∃ Ta, lX9_becomeLike_34 To n Tt (nI i) = some Ta ∧ (∀ j, i ≤ j → j < 6 → Ta 1 j = To 1 j) ∧ (∀ j, j < 5 → Ta 2 j = To 2 j ∧ Ta 4 j = To 4 j) ∧ (∀ j, j < 10 → Ta 3 j = To 3 j) ∧ (∀ j, j < 96 → Ta 5 j = To 5 j) ∧ ∀ j, Ta 0 j = Tt 0 j := by
  intro k
  induction k with
  | zero =>
    intro i n Tt hk hn
    obtain ⟨n, rfl, -⟩ := gt_s hn
    rw [sX9_becomeLike_34]
    unfold fX9_becomeLike_34
    have q0 : (nI 6 ≤ nI i) = True := by rw [e_le (by omega) (by omega)]; exact eq_true (by omega)
    simp only [lit, q0, if_true]
    obtain ⟨Ta, a1, a2, a3, a4, a5⟩ := c_bl60 To 5 0 fu Tt (by omega) (fu_gt (by omega))
    exact ⟨Ta, a1, fun j h1 h2 => by omega, fun j hj => a2 j (by omega) hj, a3, a4, fun j => a5 0 j (by omega) (by omega) (by omega)⟩
  | succ k ih =>
    intro i n Tt hk hn
    obtain ⟨n, rfl, hn⟩ := gt_s hn
    rw [sX9_becomeLike_34]
    unfold fX9_becomeLike_34
    have q0 : (nI 6 ≤ nI i) = False := by rw [e_le (by omega) (by omega)]; exact eq_false (by omega)
    have q : (ix (nI i) 6) = True := by rw [e_ix (by omega)]; exact eq_true (by omega)
    simp only [lit, q0, q, if_true, if_false, e_add, cl_nI (show i < 2 ^ 31 by omega)]
    -- the row is written before the rest: what comes behind leaves it
    have fr : ∀ k i n Tt, i + k = 6 → k < n → ∀ Ta, lX9_becomeLike_34 To n Tt (nI i) = some Ta → ∀ j, j < i → Ta 1 j = Tt 1 j := by
      intro k
      induction k with
      | zero =>
        intro i n Tt hk hn Ta e j hj
        obtain ⟨n, rfl, -⟩ := gt_s hn
        rw [sX9_becomeLike_34] at e
        unfold fX9_becomeLike_34 at e
        have q0 : (nI 6 ≤ nI i) = True := by rw [e_le (by omega) (by omega)]; exact eq_true (by omega)
        simp only [lit, q0, if_true] at e
        obtain ⟨Tb, a1, a2, a3, a4, a5⟩ := c_bl60 To 5 0 fu Tt (by omega) (fu_gt (by omega))
        rw [a1] at e
        rw [← Option.some.inj e]
        exact a5 1 j (by omega) (by omega) (by omega)
      | succ k ih =>
        intro i n Tt hk hn Ta e j hj
        obtain ⟨n, rfl, hn⟩ := gt_s hn
        rw [sX9_becomeLike_34] at e
        unfold fX9_becomeLike_34 at e
        have q0 : (nI 6 ≤ nI i) = False := by rw [e_le (by omega) (by omega)]; exact eq_false (by omega)
        have q : (ix (nI i) 6) = True := by rw [e_ix (by omega)]; exact eq_true (by omega)
        simp only [lit, q0, q, if_true, if_false, e_add, cl_nI (show i < 2 ^ 31 by omega)] at e
        rw [ih (i + 1) n _ (by omega) (by omega) Ta e j (by omega), u2_ap, if_neg (by omega)]
    obtain ⟨Ta, a1, a2, a3, a4, a5, a6⟩ := ih (i + 1) n (u2 Tt 1 i (To 1 i)) (by omega) (by omega)
    refine ⟨Ta, a1, fun j h1 h2 => ?_, a3, a4, a5, fun j => ?_⟩
    · by_cases d : j = i
      · rw [d, fr k (i + 1) n _ (by omega) (by omega) Ta a1 i (by omega), u2_same]
      · exact a2 j (by omega) h2
    · rw [a6 j, u2_ap, if_neg (by omega)]
theorem c_tlike (Tv : Gp) (h : CT Tt τ) : ∃ Ta, fX9_becomeLike Tv Tt = some Ta ∧ CT Ta τ := by
  obtain ⟨hw, h0, h1, h2, h3, hk, hc, hb, hwo, hm⟩ := h
  obtain ⟨Ta, a1, a2, a3, a4, a5, a6⟩ := c_bl34 Tt 6 0 fu (u2 (u2 (u2 (u2 Tv 0 0 (Tt 0 0)) 0 1 (Tt 0 1)) 0 2 (Tt 0 2)) 0 3 (Tt 0 3)) (by omega) (fu_gt (by omega))
  refine ⟨Ta, a1, hw, ?_, ?_, ?_, ?_, fun i hi => ?_, fun w hi => ?_, fun v w hv hi => ?_, fun w hi => ?_, fun i hi => ?_⟩
  · rw [a6, u2_ap, if_neg (by omega), u2_ap, if_neg (by omega), u2_ap, if_neg (by omega), u2_same]; exact h0
  · rw [a6, u2_ap, if_neg (by omega), u2_ap, if_neg (by omega), u2_same]; exact h1
  · rw [a6, u2_ap, if_neg (by omega), u2_same]; exact h2
  · rw [a6, u2_same]; exact h3
  · rw [a2 i (by omega) hi]; exact hk i hi
  · rw [(a3 w hi).1]; exact hc w hi
  · rw [a4 _ (by omega)]; exact hb v w hv hi
  · rw [(a3 w hi).2]; exact hwo w hi
  · rw [a5 i hi]; exact hm i hi
theorem XR_XT (h : XR Tx Tm) : ∃ len t, XT len t Tx Tm := by
  obtain ⟨len, h0, h1, h2, h3⟩ := h
  refine ⟨len, fun i => (Tx 1 i).toNatClampNeg, h0, h1, h2, fun i hi => ?_⟩
  obtain ⟨b, hb, e1, e2⟩ := h3 i hi
  have : (Tx 1 i).toNatClampNeg = b := by rw [e1, cl_nI (by omega)]
  show (Tx 1 i).toNatClampNeg < 256 ∧ Tx 1 i = nI (Tx 1 i).toNatClampNeg ∧ Tm 3 i = nI (Tx 1 i).toNatClampNeg
  rw [this]
  exact ⟨hb, e1, e2⟩
/-- both read the text -/
theorem both_read (Tl Tk : Gp) (hx : XR Tx Tm) (hc : CT Tv τ) (hm : RT Tm τ) :
    (∃ Tl' Tk' Tv' Tn f, f ≤ 200 ∧ fX1_readInto Tl Tk Tx Tv = some (nI f, Tl', Tk', Tv') ∧ fX11_fault Tm = some (nI f, Tn) ∧ FO 0 Tm Tn) ∨
    (∃ Tl' Tk' Tv' Tn q' τ', q' ≤ 10 ∧ fX1_readInto Tl Tk Tx Tv = some (-nI 1, Tl', Tk', Tv') ∧ fX11_fault Tm = some (-nI 1, Tn) ∧ FO 0 Tm Tn ∧ CT Tv' τ' ∧ SQ Tn q' τ τ' ∧ Tn 0 5 = nI q' ∧ Tl' 0 2 = nI q') := by
  obtain ⟨len, t, X⟩ := XR_XT hx
  have h6 := hm.2.1
  have h7 := hm.2.2.1
  have fo : FO 0 Tm (u2 (u2 (u2 (u2 Tm 0 13 (nI 0)) 0 5 (nI 0)) 0 16 (nI (tN τ))) 0 17 (nI (tH τ))) := FO_t (FO_t (FO_t (FO_u (Or.inr rfl)) (FO_u (Or.inr rfl))) (FO_u (Or.inr rfl))) (FO_u (Or.inr rfl))
  obtain ⟨To, e1, f1, my, h13, h5⟩ := m_28f hm 5 0 fu _ (by omega) (fu_gt (by omega)) fo (fun j v h1 h2 => by omega) (by rw [u2_ap, if_neg (by omega), u2_same]) (u2_same _ _ _ _) (by rw [u2_ap, if_neg (by omega), u2_ap, if_neg (by omega), u2_ap, if_neg (by omega), u2_same]) (by rw [u2_ap, if_neg (by omega), u2_ap, if_neg (by omega), u2_same])
  have X1 := XT_0 X f1
  obtain ⟨Ta, Tb, b, g1, g2, g3, g4⟩ := both_token (Tk := u2 Tk 0 2 (nI 0)) X1 (Nat.zero_le len) (u2_same _ _ _ _) h13
  have ef : fX11_fault Tm = bd2 (fX11_readsLine Tb) (fun r T' => if r = 0 then some (T' 0 14, T') else lX11_fault_111 fu T') := by
    unfold fX11_fault
    rw [h6, h7]
    show lX11_fault_28 fu (u2 (u2 (u2 (u2 Tm 0 13 (nI 0)) 0 5 (nI 0)) 0 16 (nI (tN τ))) 0 17 (nI (tH τ))) (nI 0) = _
    rw [e1, g2]
    rfl
  have ec : fX1_readInto Tl Tk Tx Tv = lX1_readInto_14 Tx fu (u2 Tl 0 1 (-nI 1)) Ta Tv (nI (0 + 1)) := by
    unfold fX1_readInto fX8_rewind
    show bd1 (bd1 (fX8_advance (u2 Tk 0 2 (nI 0)) Tx) (fun Tk_1 => some Tk_1)) (fun Tk_1 => lX1_readInto_14 Tx fu (u2 Tl 0 1 (-nI 1)) Tk_1 Tv (nI 1)) = _
    rw [g1]
    rfl
  have S0 : SQ Tb 0 τ τ := SQ_0 _ _
  rw [ef, ec]
  rcases both_loop 9 0 fu fu (u2 Tl 0 1 (-nI 1)) Ta Tv Tb b τ (by omega) (fu_gt (by omega)) (fu_gt (by omega)) (XT_f X1 g3) g4 (u2_same _ _ _ _) hc (MY_f my g3) (by rw [g3 0 5 (by omega)]; exact h5) S0 with ⟨Tl', Tk', Tv', Tn', f, i1, i2, i3, i4⟩ | ⟨Tl', Tk', Tv', Tn', q', τ2, i1, i2, i3, i4, i5⟩
  · left
    exact ⟨Tl', Tk', Tv', Tn', f, i1, i2, i3, FO_t (FO_t f1 (FT_FO g3)) i4⟩
  · right
    exact ⟨Tl', Tk', Tv', Tn', q', τ2, i1, i2, i3, FO_t (FO_t f1 (FT_FO g3)) i4, i5⟩
theorem r_fault (Te Tl Tk Tv : Gp) (ht : CT Tt τ) (hm : RT Tm τ) (hx : XR Tx Tm) : ∃ r Tl' Tk' Tv' Tn, fX10_fault Te Tl Tk Tx Tt Tv = some (r, Tl', Tk', Tv') ∧ fX11_fault Tm = some (r, Tn) ∧ FO 0 Tm Tn := by
  obtain ⟨Tv1, e1, c1⟩ := c_tlike Tv ht
  unfold fX10_fault
  rw [e1]
  rcases both_read Tl Tk hx c1 hm with ⟨Tl', Tk', Tv', Tn, f, hf, a1, a2, a3⟩ | ⟨Tl', Tk', Tv', Tn, q', τ', hq, a1, a2, a3, -⟩
  · exact ⟨_, Tl', Tk', Tv', Tn, by simp only [bd1_s]; rw [a1]; rfl, a2, a3⟩
  · exact ⟨_, Tl', Tk', Tv', Tn, by simp only [bd1_s]; rw [a1]; rfl, a2, a3⟩
theorem m_begin2 : ∀ k i n Tm, i + k = 87 → k < n → ∃ Ta, lX11_begin_2 n Tm (nI i) = some Ta ∧ (∀ j, i ≤ j → j < 87 → Ta 1 j = if j < 39 then nI 0 else -nI 1) ∧ ∀ c j, ¬ (c = 1 ∧ i ≤ j ∧ j < 87) → Ta c j = Tm c j := by
  intro k
  induction k with
  | zero =>
    intro i n Tm hk hn
    obtain ⟨n, rfl, -⟩ := gt_s hn
    rw [sX11_begin_2]
    unfold fX11_begin_2
    have q0 : (nI 87 ≤ nI i) = True := by rw [e_le (by omega) (by omega)]; exact eq_true (by omega)
    simp only [lit, q0, if_true]
    exact ⟨Tm, rfl, fun j h1 h2 => by omega, fun c j _ => rfl⟩
  | succ k ih =>
    intro i n Tm hk hn
    obtain ⟨n, rfl, hn⟩ := gt_s hn
    rw [sX11_begin_2]
    unfold fX11_begin_2
    have q0 : (nI 87 ≤ nI i) = False := by rw [e_le (by omega) (by omega)]; exact eq_false (by omega)
    have q : (ix (nI i) 261) = True := by rw [e_ix (by omega)]; exact eq_true (by omega)
    have fin : ∀ v, v = (if i < 39 then nI 0 else -nI 1) → ∃ Ta, lX11_begin_2 n (u2 Tm 1 i v) (nI (i + 1)) = some Ta ∧ (∀ j, i ≤ j → j < 87 → Ta 1 j = if j < 39 then nI 0 else -nI 1) ∧ ∀ c j, ¬ (c = 1 ∧ i ≤ j ∧ j < 87) → Ta c j = Tm c j := by
      intro v hv
      obtain ⟨Ta, a1, a2, a3⟩ := ih (i + 1) n (u2 Tm 1 i v) (by omega) (by omega)
      refine ⟨Ta, a1, fun j h1 h2 => ?_, fun c j h => ?_⟩
      · by_cases d : j = i
        · rw [a3 1 j (by omega), d, u2_same]; exact hv
        · exact a2 j (by omega) h2
      · rw [a3 c j (by omega), u2_ap, if_neg (by omega)]
    simp only [lq, q0, q, if_true, if_false, e_add, cl_nI (show i < 2 ^ 31 by omega)]
    rw [if_le (by omega) (by omega)]
    by_cases d : 39 ≤ i
    · rw [if_pos d]
      exact fin _ (by rw [if_neg (by omega)])
    · rw [if_neg d]
      exact fin _ (by rw [if_pos (by omega)])
def bgD : DA := (0, (fun _ => false), fun _ => none)
def bgV : VV := ((fun _ => nI 0), (fun _ => nI 0), fun _ => nI 0)
theorem DW_bg : DW bgD := ⟨by show 0 < _; omega, fun i w e => by cases e⟩
theorem c_begin (Td : Gp) : ∃ Ta, fX0_beginAnew Td = some Ta ∧ C0 Ta bgD ∧ C1 Ta bgV := by
  have z12 : ∀ i : Fin 12, (nI 0 >>> (nI i.1 &&& nI 31)) &&& nI 1 = nI 0 := by decide +kernel
  refine ⟨_, rfl, ⟨DW_bg, ?_, fun i hi => ?_, fun i hi => ?_⟩, fun v hv => ?_, fun i hi => ?_, fun i hi => ?_⟩
  · rw [uc_ap, if_neg (by omega), uc_ap, if_neg (by omega), uc_ap, if_neg (by omega), uc_ap, if_neg (by omega), u2_ap, if_neg (by omega), u2_same]; rfl
  · rw [uc_ap, if_neg (by omega), uc_ap, if_neg (by omega), uc_ap, if_neg (by omega), uc_ap, if_neg (by omega), u2_same]
    exact z12 ⟨i, hi⟩
  · rw [uc_ap, if_pos rfl, ev_fill_ap _ _ _ hi]; rfl
  · rw [uc_ap, if_neg (by omega), uc_ap, if_neg (by omega), uc_ap, if_neg (by omega), uc_ap, if_pos rfl, ev_fill_ap _ _ _ hv]; rfl
  · rw [uc_ap, if_neg (by omega), uc_ap, if_neg (by omega), uc_ap, if_pos rfl, ev_fill_ap _ _ _ hi]; rfl
  · rw [uc_ap, if_neg (by omega), uc_ap, if_pos rfl, ev_fill_ap _ _ _ hi]; rfl
theorem m_begin (Tm : Gp) : ∃ Ta, fX11_begin Tm = some Ta ∧ M0 Ta 0 bgD ∧ M1 Ta 0 bgV ∧ ∀ c j, ¬ (c = 1 ∧ j < 87) → Ta c j = Tm c j := by
  obtain ⟨Ta, a1, a2, a3⟩ := m_begin2 87 0 fu Tm (by omega) (fu_gt (by omega))
  refine ⟨Ta, a1, ⟨DW_bg, ?_, fun i hi => ?_, fun i hi => ?_⟩, ⟨fun v hv => ?_, fun i hi => ?_, fun i hi => ?_⟩, fun c j h => a3 c j (by omega)⟩
  · rw [a2 0 (by omega) (by omega), if_pos (by omega)]; rfl
  · rw [a2 _ (by omega) (by omega), if_pos (by omega)]; rfl
  · rw [a2 _ (by omega) (by omega), if_neg (by omega)]; rfl
  · rw [a2 _ (by omega) (by omega), if_pos (by omega)]; rfl
  · rw [a2 _ (by omega) (by omega), if_pos (by omega)]; rfl
  · rw [a2 _ (by omega) (by omega), if_pos (by omega)]; rfl
end TREATY
