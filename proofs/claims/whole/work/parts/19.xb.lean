theorem lq (n : Nat) : (OfNat.ofNat n : Int32) = nI n := Eq.trans (lit n) (Eq.refl (nI n))
theorem m1_q : (-1 : Int32) = -nI 1 := Eq.trans m1_eq (Eq.refl (-nI 1))
/-! words -/
def wq (k j : Nat) : Nat := (([[116, 114, 101, 97, 116, 121], [119, 111, 114, 107], [107, 105, 110, 100], [109, 101, 97, 110, 116], [101, 97, 116, 115], [102, 105, 110, 101]] : List (List Nat)).getD k []).getD j 0
def wn (k : Nat) : Nat := ev_len.getD k 0
def Wr (k : Nat) : Int32 := ([859870804, 379383, 145707, 21431469, 643109, 178470] : List Int32).getD k 0
theorem wq_c : ∀ (k j : Fin 6), j.1 < wn k.1 → ev_sc k.1 j.1 = nI (wq k.1 j.1) := by decide +kernel
theorem wq_m : ∀ (k j : Fin 6), j.1 < wn k.1 → nI 96 + ((Wr k.1 >>> (nI 5 * nI j.1 &&& nI 31)) &&& nI 31) = nI (wq k.1 j.1) := by decide +kernel
theorem wq_b : ∀ (k j : Fin 6), wq k.1 j.1 < 256 ∧ (j.1 = 0 → ks (wq k.1 j.1) = 1) := by decide +kernel
theorem wn_b : ∀ (k : Fin 6), 4 ≤ wn k.1 ∧ wn k.1 ≤ 6 := by decide +kernel
def am (t : Nat → Nat) (b k : Nat) : Nat → Nat → Bool
  | 0, _ => true
  | n + 1, j => decide (t (b + j) = wq k j) && am t b k n (j + 1)
def isW (len : Nat) (t : Nat → Nat) (b k : Nat) : Bool := decide (te len t b = b + wn k) && am t b k (wn k) 0
section WORDS
variable {Tx Tm Tk Tl : Gp} {len : Nat} {t : Nat → Nat} {b : Nat}
theorem c_w28 (h : XT len t Tx Tm) (h1 : Tk 0 1 = nI b) {k : Nat} (hk6 : k < 6) (hb : b + wn k ≤ len) : ∀ m j n, j + m = wn k → m < n → lX8_isWord_28 k Tk Tx n (nI j) = some (bI (am t b k m j)) := by
  have hl := h.1
  have hw := wn_b ⟨k, hk6⟩
  simp only at hw
  have es : ev_sl k = nI (wn k) := rfl
  intro m
  induction m with
  | zero =>
    intro j n hm hn
    obtain ⟨n, rfl, -⟩ := gt_s hn
    rw [sX8_isWord_28]
    unfold fX8_isWord_28
    rw [es, if_pos (by rw [e_le (by omega) (by omega)]; omega)]
    rfl
  | succ m ih =>
    intro j n hm hn
    obtain ⟨n, rfl, hn⟩ := gt_s hn
    have hj : j < 6 := by omega
    have wc := wq_c ⟨k, hk6⟩ ⟨j, hj⟩ (by show j < wn k; omega)
    have wb := (wq_b ⟨k, hk6⟩ ⟨j, hj⟩).1
    simp only at wc wb
    have tj := (h.2.2.2 (b + j) (by omega)).1
    rw [sX8_isWord_28]
    unfold fX8_isWord_28
    rw [es, if_neg (by rw [e_le (by omega) (by omega)]; omega), h1, e_add, c_signAt h (by omega), if_pos (show b + j < len by omega)]
    have q : (ix (nI j) (ev_len.getD k 0)) = True := by rw [e_ix (by omega)]; exact eq_true (by show j < wn k; omega)
    simp only [bd1_s, q, if_true, cl_nI (show j < 2 ^ 31 by omega), wc, lit, e_add]
    rw [if_eqn (by omega) (by omega)]
    show _ = some (bI (decide (t (b + j) = wq k j) && am t b k m (j + 1)))
    by_cases c : t (b + j) = wq k j
    · rw [if_pos c, decide_eq_true c, Bool.true_and]
      exact ih (j + 1) n (by omega) (by omega)
    · rw [if_neg c, decide_eq_false c, Bool.false_and]
      rfl
theorem isW_k (hb : b ≤ len) {k : Nat} (hk6 : k < 6) (h : isW len t b k = true) : kn len t b = 1 ∧ te len t b = b + wn k := by
  unfold isW at h
  simp only [Bool.and_eq_true, decide_eq_true_eq] at h
  have hw := wn_b ⟨k, hk6⟩
  simp only at hw
  have hlt : b < len := by
    apply Nat.lt_of_not_le
    intro c
    have : te len t b = b := by unfold te; rw [if_neg (by omega)]
    omega
  obtain ⟨m, hm⟩ : ∃ m, wn k = m + 1 := ⟨wn k - 1, by omega⟩
  have h2 := h.2
  rw [hm] at h2
  have h3 : (decide (t (b + 0) = wq k 0) && am t b k m (0 + 1)) = true := h2
  simp only [Bool.and_eq_true, decide_eq_true_eq, Nat.add_zero] at h3
  refine ⟨?_, h.1⟩
  unfold kn
  rw [if_pos hlt, h3.1]
  exact (wq_b ⟨k, hk6⟩ ⟨0, by omega⟩).2 rfl
theorem c_isWord (h : XT len t Tx Tm) (hk : KK len t Tk Tm b) {k : Nat} (hk6 : k < 6) : fX8_isWord k Tk Tx = some (bI (isW len t b k)) := by
  have hl := h.1
  have hw := wn_b ⟨k, hk6⟩
  simp only at hw
  have es : ev_sl k = nI (wn k) := rfl
  obtain ⟨hb, k1, k2, k3, -⟩ := hk
  have tl := te_le t hb
  have kk := (so_ks (t b) 0).2.2.2.2
  have kb : kn len t b ≤ 3 := by unfold kn; split <;> omega
  unfold fX8_isWord
  rw [es, k1, k2, k3, e_sub tl.1]
  rw [if_eqn (show te len t b - b < 2 ^ 31 by omega) (show wn k < 2 ^ 31 by omega)]
  simp only [lq]
  rw [if_eqn (by omega) (by omega)]
  by_cases c : kn len t b = 1
  · rw [if_pos c]
    unfold isW
    by_cases d : te len t b = b + wn k
    · rw [if_pos (by omega), decide_eq_true d, Bool.true_and]
      exact c_w28 h k1 hk6 (by omega) (wn k) 0 fu (by omega) (fu_gt (by omega))
    · rw [if_neg (by omega), decide_eq_false d, Bool.false_and]
      rfl
  · rw [if_neg c]
    cases e : isW len t b k
    · rfl
    · exact absurd (isW_k hb hk6 e).1 c
theorem m_w22 (h : XT len t Tx Tm) (h1 : Tm 0 14 = nI b) {k : Nat} (hk6 : k < 6) (hb : b + wn k ≤ len) : ∀ m j n, j + m = wn k → m + 1 < n → lX11_isWord_22 Tm n (Wr k) (nI (wn k)) (nI 1) (nI j) = some (bI (am t b k m j)) := by
  have hl := h.1
  have hw := wn_b ⟨k, hk6⟩
  simp only at hw
  have q1 : (nI 1 = nI 0) = False := by rw [e_eq (by omega) (by omega)]; exact eq_false (by omega)
  intro m
  induction m with
  | zero =>
    intro j n hm hn
    obtain ⟨n, rfl, -⟩ := gt_s hn
    rw [sX11_isWord_22]
    unfold fX11_isWord_22
    have q2 : (nI (wn k) ≤ nI j) = True := by rw [e_le (by omega) (by omega)]; exact eq_true (by omega)
    simp only [lit, q1, q2, if_true, if_false, nar1]
    rfl
  | succ m ih =>
    intro j n hm hn
    obtain ⟨n, rfl, hn⟩ := gt_s hn
    have hj : j < 6 := by omega
    have wc := wq_m ⟨k, hk6⟩ ⟨j, hj⟩ (by show j < wn k; omega)
    have wb := (wq_b ⟨k, hk6⟩ ⟨j, hj⟩).1
    simp only at wc wb
    have tj := h.2.2.2 (b + j) (by omega)
    rw [sX11_isWord_22]
    unfold fX11_isWord_22
    have q2 : (nI (wn k) ≤ nI j) = False := by rw [e_le (by omega) (by omega)]; exact eq_false (by omega)
    have q3 : (ix (nI (b + j)) 200) = True := by rw [e_ix (by omega)]; exact eq_true (by omega)
    rw [h1]
    simp only [lit, q1, q2, if_false, e_add, q3, if_true, cl_nI (show b + j < 2 ^ 31 by omega), tj.2.2]
    rw [wc, if_eqn (by omega) (by omega)]
    show _ = some (bI (decide (t (b + j) = wq k j) && am t b k m (j + 1)))
    by_cases c : t (b + j) = wq k j
    · rw [if_pos c, decide_eq_true c, Bool.true_and]
      exact ih (j + 1) n (by omega) (by omega)
    · rw [if_neg c, decide_eq_false c, Bool.false_and]
      obtain ⟨n, rfl, -⟩ := gt_s (show 0 < n by omega)
      rw [sX11_isWord_22]
      unfold fX11_isWord_22
      simp only [lit, if_true, nar0]
      rfl
theorem m_isWord (h : XT len t Tx Tm) (hk : KK len t Tk Tm b) {k : Nat} (hk6 : k < 6) : fX11_isWord Tm (Wr k) (nI (wn k)) = some (bI (isW len t b k)) := by
  have hl := h.1
  have hw := wn_b ⟨k, hk6⟩
  simp only at hw
  obtain ⟨hb, k1, k2, k3, k13, k14, k15⟩ := hk
  have tl := te_le t hb
  unfold fX11_isWord isW
  rw [k14, k15, e_sub tl.1, if_eqn (by omega) (by omega)]
  simp only [lit]
  by_cases d : te len t b = b + wn k
  · rw [if_pos (by omega), decide_eq_true d, Bool.true_and]
    exact m_w22 h k14 hk6 (by omega) (wn k) 0 fu (by omega) (fu_gt (by omega))
  · rw [if_neg (by omega), decide_eq_false d, Bool.false_and]
    obtain ⟨n, hn⟩ := fu_ex
    have hn2 : fu = n + 99989 + 1 := hn
    rw [hn2, sX11_isWord_22]
    unfold fX11_isWord_22
    simp only [lit, if_true, nar0]
    rfl
/-- which word a line begins with; 6: none -/
def wf (len : Nat) (t : Nat → Nat) (b : Nat) : Nat := if isW len t b 0 = true then 0 else if isW len t b 1 = true then 1 else if isW len t b 2 = true then 2 else if isW len t b 3 = true then 3 else if isW len t b 4 = true then 4 else if isW len t b 5 = true then 5 else 6
theorem m_wordOf (h : XT len t Tx Tm) (hk : KK len t Tk Tm b) : fX11_wordOf Tm = some (if wf len t b = 6 then -nI 1 else nI (wf len t b)) := by
  have h0 : fX11_isWord Tm (859870804 : Int32) (6 : Int32) = _ := m_isWord h hk (k := 0) (by omega)
  have h1 : fX11_isWord Tm (379383 : Int32) (4 : Int32) = _ := m_isWord h hk (k := 1) (by omega)
  have h2 : fX11_isWord Tm (145707 : Int32) (4 : Int32) = _ := m_isWord h hk (k := 2) (by omega)
  have h3 : fX11_isWord Tm (21431469 : Int32) (5 : Int32) = _ := m_isWord h hk (k := 3) (by omega)
  have h4 : fX11_isWord Tm (643109 : Int32) (4 : Int32) = _ := m_isWord h hk (k := 4) (by omega)
  have h5 : fX11_isWord Tm (178470 : Int32) (4 : Int32) = _ := m_isWord h hk (k := 5) (by omega)
  unfold fX11_wordOf wf
  rw [h0, h1, h2, h3, h4, h5]
  simp only [bd1_s]
  simp only [m1_eq]
  simp only [lit, bI_0]
  cases isW len t b 0
  · cases isW len t b 1
    · cases isW len t b 2
      · cases isW len t b 3
        · cases isW len t b 4
          · cases isW len t b 5 <;> simp
          · simp
        · simp
      · simp
    · simp
  · simp
/-! numbers -/
def nv (len : Nat) (t : Nat → Nat) (b : Nat) : Nat := if kn len t b = 2 ∧ te len t b ≤ b + 2 then (if te len t b = b + 1 then t b - 48 else (t b - 48) * 10 + (t (b + 1) - 48)) else 1000000
theorem ks_2 {c : Nat} (h : ks c = 2) : 48 ≤ c ∧ c ≤ 57 := by
  unfold ks at h
  by_cases a : 97 ≤ c ∧ c ≤ 122
  · rw [if_pos a] at h; omega
  · rw [if_neg a] at h
    by_cases d : 48 ≤ c ∧ c ≤ 57
    · exact d
    · rw [if_neg d] at h; omega
theorem kn_lt (hk : kn len t b ≠ 0) : b < len ∧ kn len t b = ks (t b) := by
  unfold kn at hk ⊢
  by_cases c : b < len
  · rw [if_pos c]; exact ⟨c, rfl⟩
  · rw [if_neg c] at hk; exact absurd rfl hk
theorem nv_99 : nv len t b ≤ 99 ∨ nv len t b = 1000000 := by
  unfold nv
  by_cases c : kn len t b = 2 ∧ te len t b ≤ b + 2
  · rw [if_pos c]
    left
    obtain ⟨h1, h2⟩ := kn_lt (show kn len t b ≠ 0 by omega)
    have d0 := ks_2 (c := t b) (by omega)
    have tl := te_lt t h1
    by_cases d : te len t b = b + 1
    · rw [if_pos d]; omega
    · rw [if_neg d]
      have d1 := ks_2 (c := t (b + 1)) (by rw [te_all (len := len) t (show b ≤ b + 1 by omega) (by omega)]; omega)
      omega
  · rw [if_neg c]; exact Or.inr rfl
theorem c_number (h : XT len t Tx Tm) (hk : KK len t Tk Tm b) : fX8_number Tk Tx = some (if b < len ∧ t b = 45 then -nI 1 else nI (nv len t b)) := by
  have hl := h.1
  obtain ⟨hb, k1, k2, k3, -⟩ := hk
  have tl := te_le t hb
  have kk := (so_ks (t b) 0).2.2.2.2
  have kb : kn len t b ≤ 3 := by unfold kn; split <;> omega
  have e26 : fX8_number_26 Tk Tx = some (nI (nv len t b)) := by
    unfold fX8_number_26 nv
    rw [k1, k2, k3, e_sub tl.1]
    simp only [lq]
    rw [if_eqn (by omega) (by omega)]
    by_cases c : kn len t b = 2
    · rw [if_pos c, if_le (by omega) (by omega)]
      by_cases d : te len t b ≤ b + 2
      · rw [if_pos (by omega), if_pos ⟨c, d⟩]
        obtain ⟨h1, h2⟩ := kn_lt (show kn len t b ≠ 0 by omega)
        have tlt := te_lt t h1
        have st : ∀ n i acc, acc ≤ 100 → i < te len t b → b ≤ i → lX8_number_57 Tk Tx (n + 1) (nI acc) (nI i) = lX8_number_57 Tk Tx n (nI (acc * 10 + (t i - 48))) (nI (i + 1)) := by
          intro n i acc ha hi hi2
          have di := ks_2 (c := t i) (by rw [te_all t hi2 hi]; omega)
          rw [sX8_number_57]
          unfold fX8_number_57
          rw [k2, if_neg (by rw [e_le (by omega) (by omega)]; omega), c_signAt h (by omega), if_pos (show i < len by omega)]
          simp only [bd1_s, lit, e_mul, e_add]
          rw [e_sub (by omega), show acc * 10 + t i - 48 = acc * 10 + (t i - 48) by omega]
        have en : ∀ n acc, lX8_number_57 Tk Tx (n + 1) (nI acc) (nI (te len t b)) = some (nI acc) := by
          intro n acc
          rw [sX8_number_57]
          unfold fX8_number_57
          rw [k2, if_pos (by rw [e_le (by omega) (by omega)]; omega)]
        obtain ⟨n, hn⟩ := fu_ex
        have hn2 : fu = n + 99987 + 1 + 1 + 1 := hn
        have d0 := ks_2 (c := t b) (by omega)
        rw [hn2, st _ _ _ (by omega) tlt (Nat.le_refl _)]
        by_cases e : te len t b = b + 1
        · rw [if_pos e, ← e, en]
          congr 2
          omega
        · have e2 : te len t b = b + 1 + 1 := by omega
          rw [if_neg e, st _ _ _ (by omega) (by omega) (by omega), ← e2, en]
          congr 2
          omega
      · rw [if_neg (by omega), if_neg (fun e => d e.2)]
    · rw [if_neg c, if_neg (fun e => c e.1)]
  unfold fX8_number
  rw [k3, k1, e26, c_signAt h (by omega)]
  simp only [m1_q]
  simp only [lq]
  rw [if_eqn (by omega) (by omega)]
  by_cases c : kn len t b = 3
  · obtain ⟨h1, h2⟩ := kn_lt (show kn len t b ≠ 0 by omega)
    have tb' := (h.2.2.2 b h1).1
    rw [if_pos c, if_pos h1]
    simp only [bd1_s]
    rw [if_eqn (by omega) (by omega)]
    by_cases d : t b = 45
    · rw [if_pos d, if_pos ⟨h1, d⟩]
    · rw [if_neg d, if_neg (fun e => d e.2)]
  · rw [if_neg c, if_neg]
    intro e
    apply c
    unfold kn
    rw [if_pos e.1, e.2]
    rfl
theorem m_51 (k : Nat) (l m : Int32) (h : XT len t Tx Tm) (hk : KK len t Tk Tm b) (c : kn len t b = 2) (d : te len t b ≤ b + 2) : lX11_reads_51 fu Tm (nI k) l m (nI 0) (nI b) = (fX11_in (nI (nv len t b)).toInt64 l.toInt64 m.toInt64).bind (fun r => if r = 0 then some (0, Tm) else if ix ((6 * Tm 0 5 + 1) + nI k) 60 then bd1 (fX11_token (u2 Tm 4 ((6 * Tm 0 5 + 1) + nI k).toNatClampNeg (nI (nv len t b)))) (fun T => some (1, T)) else none) := by
  have hl := h.1
  obtain ⟨hb, k1, k2, k3, k13, k14, k15⟩ := hk
  have tl := te_le t hb
  obtain ⟨h1, h2⟩ := kn_lt (show kn len t b ≠ 0 by omega)
  have tlt := te_lt t h1
  have st : ∀ n i acc, acc ≤ 100 → i < te len t b → b ≤ i → lX11_reads_51 (n + 1) Tm (nI k) l m (nI acc) (nI i) = lX11_reads_51 n Tm (nI k) l m (nI (acc * 10 + (t i - 48))) (nI (i + 1)) := by
    intro n i acc ha hi hi2
    have di := ks_2 (c := t i) (by rw [te_all t hi2 hi]; omega)
    have ti := h.2.2.2 i (by omega)
    have q : (ix (nI i) 200) = True := by rw [e_ix (by omega)]; exact eq_true (by omega)
    rw [sX11_reads_51]
    unfold fX11_reads_51
    rw [k15, if_neg (by rw [e_le (by omega) (by omega)]; omega)]
    simp only [q, if_true, cl_nI (show i < 2 ^ 31 by omega), ti.2.2, lit, e_mul, e_add]
    rw [e_sub (by omega), show 10 * acc + t i - 48 = acc * 10 + (t i - 48) by omega]
  have en : ∀ n acc, lX11_reads_51 (n + 1) Tm (nI k) l m (nI acc) (nI (te len t b)) = (fX11_in (nI acc).toInt64 l.toInt64 m.toInt64).bind (fun r => if r = 0 then some (0, Tm) else if ix ((6 * Tm 0 5 + 1) + nI k) 60 then bd1 (fX11_token (u2 Tm 4 ((6 * Tm 0 5 + 1) + nI k).toNatClampNeg (nI acc))) (fun T => some (1, T)) else none) := by
    intro n acc
    rw [sX11_reads_51]
    unfold fX11_reads_51
    rw [k15, if_pos (by rw [e_le (by omega) (by omega)]; omega)]
    cases fX11_in (nI acc).toInt64 l.toInt64 m.toInt64 <;> rfl
  obtain ⟨n, hn⟩ := fu_ex
  have hn2 : fu = n + 99987 + 1 + 1 + 1 := hn
  have d0 := ks_2 (c := t b) (by omega)
  unfold nv
  rw [if_pos ⟨c, d⟩, hn2, st _ _ _ (by omega) tlt (Nat.le_refl _), show 0 * 10 + (t b - 48) = t b - 48 by omega]
  by_cases e : te len t b = b + 1
  · rw [if_pos e, ← e, en]
  · have e2 : te len t b = b + 1 + 1 := by omega
    rw [if_neg e, st _ _ _ (by omega) (by omega) (by omega), ← e2, en]
end WORDS
