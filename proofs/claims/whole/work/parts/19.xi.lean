section FAULT
variable {Tx Tm Tk Tl Tv Tt : Gp} {len : Nat} {t : Nat → Nat} {b : Nat} {τ : TD}
/-- the lines read so far -/
def SQ (Tm : Gp) (q : Nat) (τ τd : TD) : Prop := ∃ σ : Nat → TD, σ 0 = τ ∧ σ q = τd ∧ ∀ k, k < q → AP Tm k (σ k) (σ (k + 1))
theorem SQ_0 (Tm : Gp) (τ : TD) : SQ Tm 0 τ τ := ⟨fun _ => τ, rfl, rfl, fun k hk => by omega⟩
theorem SQ_s {Tn : Gp} {q : Nat} {τd τ' : TD} (h : SQ Tm q τ τd) (a : AP Tn q τd τ') (f : ∀ j, j < 6 * q → Tn 4 j = Tm 4 j) : SQ Tn (q + 1) τ τ' := by
  obtain ⟨σ, h0, hq, hs⟩ := h
  refine ⟨fun k => if k ≤ q then σ k else τ', ?_, ?_, fun k hk => ?_⟩
  · show (if 0 ≤ q then σ 0 else τ') = τ
    rw [if_pos (Nat.zero_le _)]; exact h0
  · show (if q + 1 ≤ q then σ (q + 1) else τ') = τ'
    rw [if_neg (by omega)]
  · show AP Tn k (if k ≤ q then σ k else τ') (if k + 1 ≤ q then σ (k + 1) else τ')
    rw [if_pos (by omega)]
    by_cases c : k + 1 ≤ q
    · rw [if_pos c]
      exact AP_E (hs k (by omega)) (fun j hj => f _ (by omega))
    · rw [if_neg c]
      have : k = q := by omega
      rw [this, hq]
      exact a
theorem SQ_E {Tn : Gp} {q : Nat} {τd : TD} (h : SQ Tm q τ τd) (f : ∀ j, Tn 4 j = Tm 4 j) : SQ Tn q τ τd := by
  obtain ⟨σ, h0, hq, hs⟩ := h
  exact ⟨σ, h0, hq, fun k hk => AP_E (hs k hk) (fun j _ => f _)⟩
theorem MY_f {Tn : Gp} (h : MY Tm τ) (f : FT Tm Tn) : MY Tn τ := by
  obtain ⟨h1, h2, h3⟩ := h
  refine ⟨?_, ?_, fun w v a c => ?_⟩
  · rw [f 0 16 (by omega)]; exact h1
  · rw [f 0 17 (by omega)]; exact h2
  · rw [f 8 _ (by omega)]; exact h3 w v a c
theorem c_isEnd (hk : KK len t Tk Tm b) : fX8_isEnd Tk = some (bI (!decide (b < len))) := by
  have kk := (so_ks (t b) 0).2.2.2.2
  unfold fX8_isEnd
  rw [hk.2.2.2.1]
  simp only [lq]
  unfold kn
  by_cases c : b < len
  · rw [if_pos c, if_eqn (by omega) (by omega), if_neg (by omega), decide_eq_true c]; rfl
  · rw [if_neg c, if_pos rfl, decide_eq_false c]; rfl
theorem c_isSemi (h : XT len t Tx Tm) (hk : KK len t Tk Tm b) (hb : b < len) : fX8_isSign Tk Tx (nI 59) = some (bI (decide (t b = 59))) := by
  have hl := h.1
  have kk := (so_ks (t b) 0).2.2.2.2
  have tb' := (h.2.2.2 b hb).1
  have k3 : kn len t b = ks (t b) := by unfold kn; rw [if_pos hb]
  unfold fX8_isSign
  rw [hk.2.2.2.1, hk.2.1, k3]
  simp only [lq]
  rw [if_eqn (by omega) (by omega), c_signAt h (by omega), if_pos hb]
  by_cases c : ks (t b) = 3
  · rw [if_pos c]
    simp only [bd1_s]
    rw [if_eqn (by omega) (by omega)]
    by_cases d : t b = 59
    · rw [if_pos d, decide_eq_true d]; rfl
    · rw [if_neg d, decide_eq_false d]; rfl
  · rw [if_neg c, decide_eq_false]
    · rfl
    · intro e
      apply c
      rw [e]; rfl
theorem both_loop : ∀ m q n n' Tl Tk Tv Tm b τd, q + m = 9 → m < n → m < n' → XT len t Tx Tm → KK len t Tk Tm b → Tl 0 1 = -nI 1 → CT Tv τd → MY Tm τd → Tm 0 5 = nI q → SQ Tm q τ τd →
    (∃ Tl' Tk' Tv' Tn f, f ≤ 200 ∧ lX1_readInto_14 Tx n Tl Tk Tv (nI (q + 1)) = some (nI f, Tl', Tk', Tv') ∧ bd2 (fX11_readsLine Tm) (fun r T => if r = 0 then some (T 0 14, T) else lX11_fault_111 n' T) = some (nI f, Tn) ∧ FO 0 Tm Tn) ∨
    (∃ Tl' Tk' Tv' Tn q' τ', q' ≤ 10 ∧ lX1_readInto_14 Tx n Tl Tk Tv (nI (q + 1)) = some (-nI 1, Tl', Tk', Tv') ∧ bd2 (fX11_readsLine Tm) (fun r T => if r = 0 then some (T 0 14, T) else lX11_fault_111 n' T) = some (-nI 1, Tn) ∧ FO 0 Tm Tn ∧ CT Tv' τ' ∧ SQ Tn q' τ τ' ∧ Tn 0 5 = nI q' ∧ Tl' 0 2 = nI q') := by
  intro m
  induction m with
  | zero =>
    intro q n n' Tl Tk Tv Tm b τd hm hn hn' X K hT C M h5 S
    have hl := X.1
    have hq : q = 9 := by omega
    subst hq
    obtain ⟨n, rfl, -⟩ := gt_s hn
    obtain ⟨n', rfl, -⟩ := gt_s hn'
    rw [sX1_readInto_14, sX11_fault_111]
    unfold fX1_readInto_14
    rw [if_neg (show ¬ ((10 : Int32) < nI (9 + 1)) by rw [show (10 : Int32) = nI 10 from rfl, e_lt (by omega) (by omega)]; omega)]
    have n10 : (nI 1 = nI 0) = False := neN (by omega) (by omega) (by omega)
    rcases both_line X K (by omega) h5 hT C M with ⟨Tl', Ta, Tb, Tn, f, hf, e1, e2, e3, e4, e5⟩ | ⟨Ta, Tb, Tn, b', τ', e1, e2, X', K', C', A, M', h5', fo, fj⟩
    · left
      rw [e1, e3]
      simp only [bd3_s, bd2_s, m1_q, lq, e2, e_eqm (show f < 2 ^ 31 by omega), if_false, if_true, e4]
      exact ⟨_, _, _, _, f, hf, rfl, rfl, e5⟩
    · have S' := SQ_s S A fj
      have hb' := K'.1
      rw [e1, e2]
      unfold fX11_fault_111
      simp only [bd3_s, bd2_s, X'.2.2.1, K'.2.2.2.2.2.1, K'.2.2.2.2.2.2, h5', m1_q, lq, hT, if_true, n10, if_false, c_isEnd K', bd1_s, bI_0]
      by_cases c : b' < len
      · left
        have tl := te_le t hb'
        have q0 : (ix (nI b') 200) = True := by rw [e_ix (by omega)]; exact eq_true (by omega)
        have q1 : (nI len ≤ nI b') = False := by rw [e_le (by omega) (by omega)]; exact eq_false (by omega)
        have f162 : fX11_fault_162 (lX11_fault_111 n') Tn = some (nI b', Tn) := by
          unfold fX11_fault_162 fX11_fault_163
          rw [if_pos rfl, if_pos rfl, K'.2.2.2.2.2.1]
        have q10 : (nI 10 ≤ nI (9 + 1)) = True := by rw [e_le (by omega) (by omega)]; exact eq_true (by omega)
        simp only [decide_eq_true c, Bool.not_true, Bool.true_eq_false, if_false, if_true, K'.2.1, q1, q0, q10, f162]
        refine ⟨_, _, _, _, b', by omega, rfl, ?_, fo⟩
        split
        · split <;> rfl
        · rfl
      · right
        have q1 : (nI len ≤ nI b') = True := by rw [e_le (by omega) (by omega)]; exact eq_true (by omega)
        simp only [decide_eq_false c, Bool.not_false, Bool.true_eq_false, if_false, if_true, q1]
        exact ⟨_, _, _, _, 10, τ', by omega, rfl, rfl, fo, C', S', h5', u2_same _ _ _ _⟩
  | succ m ih =>
    intro q n n' Tl Tk Tv Tm b τd hm hn hn' X K hT C M h5 S
    have hl := X.1
    obtain ⟨n, rfl, hn⟩ := gt_s hn
    obtain ⟨n', rfl, hn'⟩ := gt_s hn'
    rw [sX1_readInto_14, sX11_fault_111]
    unfold fX1_readInto_14
    rw [if_neg (show ¬ ((10 : Int32) < nI (q + 1)) by rw [show (10 : Int32) = nI 10 from rfl, e_lt (by omega) (by omega)]; omega)]
    have n10 : (nI 1 = nI 0) = False := neN (by omega) (by omega) (by omega)
    rcases both_line X K (by omega) h5 hT C M with ⟨Tl', Ta, Tb, Tn, f, hf, e1, e2, e3, e4, e5⟩ | ⟨Ta, Tb, Tn, b', τ', e1, e2, X', K', C', A, M', h5', fo, fj⟩
    · left
      rw [e1, e3]
      simp only [bd3_s, bd2_s, m1_q, lq, e2, e_eqm (show f < 2 ^ 31 by omega), if_false, if_true, e4]
      exact ⟨_, _, _, _, f, hf, rfl, rfl, e5⟩
    · have S' := SQ_s S A fj
      have hb' := K'.1
      rw [e1, e2]
      unfold fX11_fault_111
      simp only [bd3_s, bd2_s, X'.2.2.1, K'.2.2.2.2.2.1, K'.2.2.2.2.2.2, h5', m1_q, lq, hT, if_true, n10, if_false, c_isEnd K', bd1_s, bI_0]
      by_cases c : b' < len
      · have tl := te_le t hb'
        have q0 : (ix (nI b') 200) = True := by rw [e_ix (by omega)]; exact eq_true (by omega)
        have q1 : (nI len ≤ nI b') = False := by rw [e_le (by omega) (by omega)]; exact eq_false (by omega)
        have q2 : (nI (q + 1) = nI 10) = False := neN (by omega) (by omega) (by omega)
        have q3 : (nI 10 ≤ nI (q + 1)) = False := by rw [e_le (by omega) (by omega)]; exact eq_false (by omega)
        have f162 : fX11_fault_162 (lX11_fault_111 n') Tn = some (nI b', Tn) := by
          unfold fX11_fault_162 fX11_fault_163
          rw [if_pos rfl, if_pos rfl, K'.2.2.2.2.2.1]
        have ti := X'.2.2.2 b' c
        simp only [decide_eq_true c, Bool.not_true, Bool.true_eq_false, if_false, if_true, K'.2.1, q1, q0, q2, q3, f162, c_isSemi X' K' c, bd1_s, bI_0, cl_nI (show b' < 2 ^ 31 by omega), ti.2.2, e_eq (show t b' < 2 ^ 31 by omega) (show 59 < 2 ^ 31 by omega), e_sub tl.1, e_eq (show te len t b' - b' < 2 ^ 31 by omega) (show 1 < 2 ^ 31 by omega)]
        by_cases d : t b' = 59
        · have et : te len t b' = b' + 1 := by unfold te; rw [if_pos c, d, if_pos (show ks 59 = 3 by decide)]
          obtain ⟨Ta2, Tb2, b2, g1, g2, g3, g4⟩ := both_next X' K'
          rw [decide_eq_true d, if_neg (by simp), if_pos (by omega), if_pos d, g1]
          unfold fX11_fault_163
          simp only [lq, n10, if_false, g2, bd1_s, e_add]
          have hT' : u2 Tl 0 2 (nI (q + 1)) 0 1 = -nI 1 := by rw [u2_ap, if_neg (by omega)]; exact hT
          have := ih (q + 1) n n' (u2 Tl 0 2 (nI (q + 1))) Ta2 Tb Tb2 b2 τ' (by omega) (by omega) (by omega) (XT_f X' g3) g4 hT' C' (MY_f M' g3) (by rw [g3 0 5 (by omega)]; exact h5') (SQ_E S' (fun j => g3 4 j (by omega)))
          simp only [lq] at this
          rcases this with ⟨Tl', Tk', Tv', Tn', f, i1, i2, i3, i4⟩ | ⟨Tl', Tk', Tv', Tn', q', τ2, i1, i2, i3, i4, i5⟩
          · left
            exact ⟨Tl', Tk', Tv', Tn', f, i1, i2, i3, FO_t (FO_t fo (FT_FO g3)) i4⟩
          · right
            exact ⟨Tl', Tk', Tv', Tn', q', τ2, i1, i2, i3, FO_t (FO_t fo (FT_FO g3)) i4, i5⟩
        · left
          rw [decide_eq_false d, if_pos rfl]
          refine ⟨_, _, _, _, b', by omega, rfl, ?_, fo⟩
          split <;> rfl
      · right
        have q1 : (nI len ≤ nI b') = True := by rw [e_le (by omega) (by omega)]; exact eq_true (by omega)
        simp only [decide_eq_false c, Bool.not_false, Bool.true_eq_false, if_false, if_true, q1]
        exact ⟨_, _, _, _, q + 1, τ', by omega, rfl, rfl, fo, C', S', h5', u2_same _ _ _ _⟩
theorem m_28f (h : RT Tm τ) : ∀ k w n Tn, w + k = 5 → k < n → FO 0 Tm Tn → (∀ j v, j < w → v < 2 → Tn 8 (2 * j + v) = bI (cn τ v j)) → Tn 0 16 = nI (tN τ) → Tn 0 17 = nI (tH τ) → Tn 0 13 = nI 0 → Tn 0 5 = nI 0 → ∃ To, lX11_fault_28 n Tn (nI w) = bd1 (fX11_token To) (fun T => bd2 (fX11_readsLine T) (fun r T' => if r = 0 then some (T' 0 14, T') else lX11_fault_111 fu T')) ∧ FO 0 Tm To ∧ MY To τ ∧ To 0 13 = nI 0 ∧ To 0 5 = nI 0 := by
  intro k
  induction k with
  | zero =>
    intro w n Tn hk hn fo h8 h16 h17 h13 h5
    obtain ⟨n, rfl, -⟩ := gt_s hn
    rw [sX11_fault_28]
    unfold fX11_fault_28
    rw [if_pos (show (5 : Int32) ≤ nI w by rw [show (5 : Int32) = nI 5 from rfl, e_le (by omega) (by omega)]; omega)]
    exact ⟨Tn, rfl, fo, ⟨h16, h17, fun j v h1 h2 => h8 j v (by omega) h2⟩, h13, h5⟩
  | succ k ih =>
    intro w n Tn hk hn fo h8 h16 h17 h13 h5
    obtain ⟨n, rfl, hn⟩ := gt_s hn
    rw [sX11_fault_28]
    unfold fX11_fault_28
    rw [if_neg (show ¬ ((5 : Int32) ≤ nI w) by rw [show (5 : Int32) = nI 5 from rfl, e_le (by omega) (by omega)]; omega)]
    have rt := RT_0 h fo
    have hw := h.1
    have b0 : Tn 5 (4 * w + 1) = bcell τ 0 w := rt.2.2.2.2.2.2.2.1 0 w (by omega) (by omega)
    have b1 : Tn 5 (4 * w + 2) = bcell τ 1 w := rt.2.2.2.2.2.2.2.1 1 w (by omega) (by omega)
    have q1 : (ix (nI (4 * w + 1)) 24) = True := by rw [e_ix (by omega)]; exact eq_true (by omega)
    have q2 : (ix (nI (4 * w + 2)) 24) = True := by rw [e_ix (by omega)]; exact eq_true (by omega)
    have q3 : (ix (nI (2 * w)) 12) = True := by rw [e_ix (by omega)]; exact eq_true (by omega)
    have q4 : (ix (nI (2 * w + 1)) 12) = True := by rw [e_ix (by omega)]; exact eq_true (by omega)
    have z1 := cl_nI (show 4 * w + 1 < 2 ^ 31 by omega)
    have z2 := cl_nI (show 4 * w + 2 < 2 ^ 31 by omega)
    have z3 := cl_nI (show 2 * w < 2 ^ 31 by omega)
    have z4 := cl_nI (show 2 * w + 1 < 2 ^ 31 by omega)
    unfold fX11_fault_59
    simp only [lq, e_mul, e_add, q1, q2, q3, q4, z1, z2, z3, z4, if_true, b0, b1, bcell_m1 hw, nar0, nar1]
    have fo2 : FO 0 Tm (u2 (u2 Tn 8 (2 * w) (bI (cn τ 0 w))) 8 (2 * w + 1) (bI (cn τ 1 w))) := FO_t fo (FO_t (FO_u (Or.inr rfl)) (FO_u (Or.inr rfl)))
    have := ih (w + 1) n (u2 (u2 Tn 8 (2 * w) (bI (cn τ 0 w))) 8 (2 * w + 1) (bI (cn τ 1 w))) (by omega) (by omega) fo2 (fun j v h1 h2 => by
      rw [u2_ap, u2_ap]
      have v2 : v = 0 ∨ v = 1 := by omega
      by_cases c : j = w
      · rcases v2 with rfl | rfl
        · rw [if_neg (by omega), if_pos (by omega), c]
        · rw [if_pos (by omega), c]
      · rw [if_neg (by omega), if_neg (by omega)]
        exact h8 j v (by omega) h2) (by rw [u2_ap, if_neg (by omega), u2_ap, if_neg (by omega)]; exact h16) (by rw [u2_ap, if_neg (by omega), u2_ap, if_neg (by omega)]; exact h17) (by rw [u2_ap, if_neg (by omega), u2_ap, if_neg (by omega)]; exact h13) (by rw [u2_ap, if_neg (by omega), u2_ap, if_neg (by omega)]; exact h5)
    simp only [lq] at this
    cases e0 : cn τ 0 w
    · cases e1 : cn τ 1 w
      · rw [e0, e1] at this
        exact this
      · rw [e0, e1] at this
        simp only [Bool.true_eq_false, if_true, if_false]
        exact this
    · cases e1 : cn τ 1 w
      · rw [e0, e1] at this
        simp only [Bool.true_eq_false, if_true, if_false]
        exact this
      · rw [e0, e1] at this
        simp only [Bool.true_eq_false, if_true, if_false]
        exact this
end FAULT
