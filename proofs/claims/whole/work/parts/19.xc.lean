section TAKE
variable {Tx Tm Tk Tl : Gp} {len : Nat} {t : Nat → Nat} {b : Nat}
theorem XT_4 (h : XT len t Tx Tm) (i : Nat) (v : Int32) : XT len t Tx (u2 Tm 4 i v) := by
  obtain ⟨h0, h1, h2, h3⟩ := h
  refine ⟨h0, h1, by rw [u2_ap, if_neg (by omega)]; exact h2, fun j hj => ?_⟩
  rw [u2_ap, if_neg (by omega)]
  exact h3 j hj
theorem KK_4 (h : KK len t Tk Tm b) (i : Nat) (v : Int32) : KK len t Tk (u2 Tm 4 i v) b := by
  obtain ⟨h0, h1, h2, h3, h4, h5, h6⟩ := h
  refine ⟨h0, h1, h2, h3, ?_, ?_, ?_⟩
  · rw [u2_ap, if_neg (by omega)]; exact h4
  · rw [u2_ap, if_neg (by omega)]; exact h5
  · rw [u2_ap, if_neg (by omega)]; exact h6
theorem take_lo (h : XT len t Tx Tm) (hk : KK len t Tk Tm b) {l m k q : Nat} (lo : Int32) (hm : m ≤ 99) (hlm : l ≤ 99) (hk4 : k ≤ 4) (hq : q < 10) (h5 : Tm 0 5 = nI q) (hT : Tl 0 1 = -nI 1) (hlo : ∀ v, v ≤ 1000000 → fX10_within (nI v) lo (nI m) = some (bI (decide (l ≤ v ∧ v ≤ m)))) (hmi : b < len ∧ t b = 45 → fX10_within (-nI 1) lo (nI m) = some (bI false)) :
    (∃ v Ta Tn b', l ≤ v ∧ v ≤ m ∧ fX1_takeNumber Tl Tk Tx lo (nI m) = some (nI v, Tl, Ta) ∧ fX11_reads Tm (nI k) (nI l) (nI m) = some (nI 1, Tn) ∧ FT (u2 Tm 4 (6 * q + 1 + k) (nI v)) Tn ∧ KK len t Ta Tn b') ∨
    (∃ r, fX1_takeNumber Tl Tk Tx lo (nI m) = some (r, u2 Tl 0 1 (nI b), Tk) ∧ fX11_reads Tm (nI k) (nI l) (nI m) = some (nI 0, Tm)) := by
  have hl := h.1
  have hnum := c_number h hk
  have hk' := hk
  obtain ⟨hb, k1, k2, k3, k13, k14, k15⟩ := hk
  have tl := te_le t hb
  have nb : nv len t b ≤ 1000000 := by have := nv_99 (len := len) (t := t) (b := b); omega
  unfold fX1_takeNumber
  rw [hT, hnum, k1]
  simp only [m1_q, if_true]
  simp only [bd1_s]
  unfold fX11_reads
  rw [k14, h.2.2.1, k15, e_sub tl.1, if_eqn (by omega) (by omega)]
  by_cases c : kn len t b = 2 ∧ te len t b ≤ b + 2
  · obtain ⟨h1, h2⟩ := kn_lt (show kn len t b ≠ 0 by omega)
    have d0 := ks_2 (c := t b) (by omega)
    have ti := h.2.2.2 b h1
    have sb := so_ks (t b) 0
    have q2 : (ix (nI b) 200) = True := by rw [e_ix (by omega)]; exact eq_true (by omega)
    have m51 := m_51 k (nI l) (nI m) h hk' c.1 c.2
    rw [if_neg (show ¬ b = len by omega), if_neg (show ¬ (b < len ∧ t b = 45) by omega), hlo _ nb]
    simp only [q2, if_true, cl_nI (show b < 2 ^ 31 by omega), ti.2.2, m_sort ti.1, bd1_s, lq]
    rw [if_eqn (by omega) (by omega), if_pos (show so (t b) = 2 by omega), if_le (show te len t b - b < 2 ^ 31 by omega) (show 2 < 2 ^ 31 by omega), if_pos (show te len t b - b ≤ 2 by omega), m51]
    rw [n_rg (nI (nv len t b)) (a := l) (b := m) (by rw [Int32.toInt_toInt64, nI_toInt (by omega)]) (by rw [Int32.toInt_toInt64, nI_toInt (by omega)])]
    have er : rg (nI (nv len t b)) l m = decide (l ≤ nv len t b ∧ nv len t b ≤ m) := by
      unfold rg
      rw [nI_toInt (by omega)]
      apply decide_eq_decide.mpr
      omega
    rw [er]
    simp only [Option.bind_some, lq, bI_0]
    by_cases d : l ≤ nv len t b ∧ nv len t b ≤ m
    · left
      rw [decide_eq_true d, if_neg (by simp), if_neg (by simp), h5]
      simp only [e_mul, e_add]
      have q3 : (ix (nI (6 * q + 1 + k)) 60) = True := by rw [e_ix (by omega)]; exact eq_true (by omega)
      simp only [q3, if_true, cl_nI (show 6 * q + 1 + k < 2 ^ 31 by omega)]
      obtain ⟨Ta, Tb, b', a1, a2, a3, a4⟩ := both_next (XT_4 h (6 * q + 1 + k) (nI (nv len t b))) (KK_4 hk' (6 * q + 1 + k) (nI (nv len t b)))
      rw [a1, a2]
      exact ⟨nv len t b, Ta, Tb, b', d.1, d.2, rfl, rfl, a3, a4⟩
    · right
      rw [decide_eq_false d, if_pos rfl, if_pos rfl]
      exact ⟨_, rfl, rfl⟩
  · right
    have en : nv len t b = 1000000 := by unfold nv; rw [if_neg c]
    refine ⟨if b < len ∧ t b = 45 then -nI 1 else nI (nv len t b), ?_, ?_⟩
    · by_cases d : b < len ∧ t b = 45
      · rw [if_pos d, hmi d]
        simp only [bd1_s, lq, bI_0, if_true]
      · rw [if_neg d, hlo _ nb, en, decide_eq_false (by omega)]
        simp only [bd1_s, lq, bI_0, if_true]
    · by_cases e : b = len
      · rw [if_pos e]; rfl
      · rw [if_neg e]
        have ti := h.2.2.2 b (by omega)
        have sb := so_ks (t b) 0
        have q2 : (ix (nI b) 200) = True := by rw [e_ix (by omega)]; exact eq_true (by omega)
        simp only [q2, if_true, cl_nI (show b < 2 ^ 31 by omega), ti.2.2, m_sort ti.1, bd1_s, lq]
        rw [if_eqn (by omega) (by omega)]
        by_cases f : so (t b) = 2
        · rw [if_pos f, if_le (by omega) (by omega), if_neg]
          intro g
          apply c
          refine ⟨?_, by omega⟩
          unfold kn
          rw [if_pos (by omega)]
          omega
        · rw [if_neg f]
theorem both_take (h : XT len t Tx Tm) (hk : KK len t Tk Tm b) {l m k q : Nat} (hm : m ≤ 99) (hlm : l ≤ 99) (hk4 : k ≤ 4) (hq : q < 10) (h5 : Tm 0 5 = nI q) (hT : Tl 0 1 = -nI 1) :
    (∃ v Ta Tn b', l ≤ v ∧ v ≤ m ∧ fX1_takeNumber Tl Tk Tx (nI l) (nI m) = some (nI v, Tl, Ta) ∧ fX11_reads Tm (nI k) (nI l) (nI m) = some (nI 1, Tn) ∧ FT (u2 Tm 4 (6 * q + 1 + k) (nI v)) Tn ∧ KK len t Ta Tn b') ∨
    (∃ r, fX1_takeNumber Tl Tk Tx (nI l) (nI m) = some (r, u2 Tl 0 1 (nI b), Tk) ∧ fX11_reads Tm (nI k) (nI l) (nI m) = some (nI 0, Tm)) := by
  refine take_lo h hk (nI l) hm hlm hk4 hq h5 hT (fun v hv => ?_) (fun _ => ?_)
  · rw [w_rg _ (by omega) (by omega)]
    unfold rg
    rw [nI_toInt (by omega)]
    congr 2
    apply decide_eq_decide.mpr
    omega
  · rw [w_rg _ (by omega) (by omega)]
    unfold rg
    rw [show (-nI 1).toInt = -1 from by decide, decide_eq_false (by omega)]
theorem both_bread (h : XT len t Tx Tm) (hk : KK len t Tk Tm b) {k q : Nat} (hk4 : k ≤ 4) (hq : q < 10) (h5 : Tm 0 5 = nI q) (hT : Tl 0 1 = -nI 1) :
    (∃ (c : Bool) (w : Nat) (Ta Tn : Gp) (b' : Nat), w ≤ 20 ∧ fX1_takeNumber Tl Tk Tx (-nI 1) (nI 20) = some (if c = true then nI w else -nI 1, Tl, Ta) ∧ fX11_readsBread Tm (nI k) = some (nI 1, Tn) ∧ FT (u2 Tm 4 (6 * q + 1 + k) (if c = true then nI w else -nI 1)) Tn ∧ KK len t Ta Tn b') ∨
    (∃ r, fX1_takeNumber Tl Tk Tx (-nI 1) (nI 20) = some (r, u2 Tl 0 1 (nI b), Tk) ∧ fX11_readsBread Tm (nI k) = some (nI 0, Tm)) := by
  have hl := h.1
  have hlo : ∀ v, v ≤ 1000000 → fX10_within (nI v) (-nI 1) (nI 20) = some (bI (decide (0 ≤ v ∧ v ≤ 20))) := by
    intro v hv
    rw [within_eq, nI_toInt (by omega), nI_toInt (by omega), show (-nI 1).toInt = -1 from by decide]
    congr 2
    apply decide_eq_decide.mpr
    omega
  by_cases c : b < len ∧ t b = 45
  · left
    have hnum := c_number h hk
    have hk' := hk
    obtain ⟨hb, k1, k2, k3, k13, k14, k15⟩ := hk
    have ti := h.2.2.2 b c.1
    have q2 : (ix (nI b) 200) = True := by rw [e_ix (by omega)]; exact eq_true (by omega)
    have q3 : (ix (nI (6 * q + 1 + k)) 60) = True := by rw [e_ix (by omega)]; exact eq_true (by omega)
    obtain ⟨Ta, Tb, b', a1, a2, a3, a4⟩ := both_next (XT_4 h (6 * q + 1 + k) (-nI 1)) (KK_4 hk' (6 * q + 1 + k) (-nI 1))
    refine ⟨false, 0, Ta, Tb, b', by omega, ?_, ?_, a3, a4⟩
    · unfold fX1_takeNumber
      rw [hT, hnum, if_pos c]
      simp only [m1_q, if_true]
      simp only [bd1_s]
      rw [within_eq, nI_toInt (by omega), show (-nI 1).toInt = -1 from by decide, decide_eq_true (by omega)]
      simp only [bd1_s, lq, bI_0]
      rw [if_neg (by simp), a1]
      rfl
    · unfold fX11_readsBread
      rw [h.2.2.1, k14, if_le (by omega) (by omega), if_neg (by omega), h5]
      simp only [q2, if_true, cl_nI (show b < 2 ^ 31 by omega), ti.2.2, lq]
      rw [if_eqn (by omega) (by omega), if_pos c.2]
      simp only [lq, e_mul, e_add, q3, if_true, cl_nI (show 6 * q + 1 + k < 2 ^ 31 by omega)]
      rw [a2]
      rfl
  · have k48 : ∀ r Tn, (r = 0 ∨ r = 1) → fX11_reads Tm (nI k) (nI 0) (nI 20) = some (nI r, Tn) → fX11_readsBread Tm (nI k) = some (nI r, Tn) := by
      intro r Tn hr e
      have e48 : fX11_readsBread_48 Tm (nI k) = some (nI r, Tn) := by
        unfold fX11_readsBread_48
        simp only [lq]
        rw [e]
        simp only [bd2_s]
        rcases hr with rfl | rfl
        · rw [nar0, if_pos rfl]
        · rw [nar1, if_pos rfl]
      obtain ⟨hb, k1, k2, k3, k13, k14, k15⟩ := hk
      unfold fX11_readsBread
      rw [h.2.2.1, k14, if_le (by omega) (by omega), e48]
      by_cases d : len ≤ b
      · rw [if_pos d]
      · rw [if_neg d]
        have ti := h.2.2.2 b (by omega)
        have q2 : (ix (nI b) 200) = True := by rw [e_ix (by omega)]; exact eq_true (by omega)
        simp only [q2, if_true, cl_nI (show b < 2 ^ 31 by omega), ti.2.2, lq]
        rw [if_eqn (by omega) (by omega), if_neg (fun e => c ⟨by omega, e⟩)]
    rcases take_lo h hk (l := 0) (m := 20) (k := k) (-nI 1) (by omega) (by omega) hk4 hq h5 hT hlo (fun d => absurd d c) with ⟨v, Ta, Tn, b', a1, a2, a3, a4, a5, a6⟩ | ⟨r, a1, a2⟩
    · left
      exact ⟨true, v, Ta, Tn, b', a2, a3, k48 1 Tn (by omega) a4, a5, a6⟩
    · right
      exact ⟨r, a1, k48 0 Tm (by omega) a2⟩
theorem c_after {x : Int32} (x1 x2 : Int32) (hT : Tl 0 1 = x) (hx : x ≠ -nI 1) : fX1_takeNumber Tl Tk Tx x1 x2 = some (-nI 1, Tl, Tk) := by
  unfold fX1_takeNumber
  rw [hT]
  simp only [m1_q]
  rw [if_neg hx]
theorem c_afterb {f : Nat} (x1 x2 : Int32) (hf : f < 2 ^ 31) : fX1_takeNumber (u2 Tl 0 1 (nI f)) Tk Tx x1 x2 = some (-nI 1, u2 Tl 0 1 (nI f), Tk) := by
  refine c_after (x := nI f) x1 x2 (u2_same _ _ _ _) (fun e => ?_)
  rw [e_eqm hf] at e
  exact e
end TAKE
