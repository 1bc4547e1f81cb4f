/-! the text's tokens -/
def XT (len : Nat) (t : Nat → Nat) (Tx Tm : Gp) : Prop := len ≤ 200 ∧ Tx 0 0 = nI len ∧ Tm 0 3 = nI len ∧ ∀ i, i < len → t i < 256 ∧ Tx 1 i = nI (t i) ∧ Tm 3 i = nI (t i)
def ks (c : Nat) : Nat := if 97 ≤ c ∧ c ≤ 122 then 1 else if 48 ≤ c ∧ c ≤ 57 then 2 else 3
def sk (t : Nat → Nat) : Nat → Nat → Nat
  | 0, i => i
  | k + 1, i => if t i = 32 then sk t k (i + 1) else i
def rn (t : Nat → Nat) (s : Nat) : Nat → Nat → Nat
  | 0, i => i
  | k + 1, i => if ks (t i) = s then rn t s k (i + 1) else i
def te (len : Nat) (t : Nat → Nat) (b : Nat) : Nat := if b < len then (if ks (t b) = 3 then b + 1 else rn t (ks (t b)) (len - (b + 1)) (b + 1)) else b
def kn (len : Nat) (t : Nat → Nat) (b : Nat) : Nat := if b < len then ks (t b) else 0
def tb (len : Nat) (t : Nat → Nat) (e : Nat) : Nat := sk t (len - e) e
theorem sk_le (t : Nat → Nat) : ∀ k i, i ≤ sk t k i ∧ sk t k i ≤ i + k := by
  intro k
  induction k with
  | zero => intro i; exact ⟨Nat.le_refl _, Nat.le_refl _⟩
  | succ k ih =>
    intro i
    show i ≤ (if t i = 32 then sk t k (i + 1) else i) ∧ (if t i = 32 then sk t k (i + 1) else i) ≤ i + (k + 1)
    have := ih (i + 1)
    split <;> omega
theorem rn_le (t : Nat → Nat) (s : Nat) : ∀ k i, i ≤ rn t s k i ∧ rn t s k i ≤ i + k := by
  intro k
  induction k with
  | zero => intro i; exact ⟨Nat.le_refl _, Nat.le_refl _⟩
  | succ k ih =>
    intro i
    show i ≤ (if ks (t i) = s then rn t s k (i + 1) else i) ∧ (if ks (t i) = s then rn t s k (i + 1) else i) ≤ i + (k + 1)
    have := ih (i + 1)
    split <;> omega
theorem rn_all (t : Nat → Nat) (s : Nat) : ∀ k i j, i ≤ j → j < rn t s k i → ks (t j) = s := by
  intro k
  induction k with
  | zero => intro i j h1 h2; exact absurd h2 (by show ¬ j < i; omega)
  | succ k ih =>
    intro i j h1 h2
    have h3 : j < (if ks (t i) = s then rn t s k (i + 1) else i) := h2
    by_cases c : ks (t i) = s
    · rw [if_pos c] at h3
      by_cases d : j = i
      · rw [d]; exact c
      · exact ih (i + 1) j (by omega) h3
    · rw [if_neg c] at h3; omega
theorem te_le {len : Nat} (t : Nat → Nat) {b : Nat} (h : b ≤ len) : b ≤ te len t b ∧ te len t b ≤ len := by
  unfold te
  by_cases c : b < len
  · rw [if_pos c]
    have := rn_le t (ks (t b)) (len - (b + 1)) (b + 1)
    split <;> omega
  · rw [if_neg c]; omega
theorem te_lt {len : Nat} (t : Nat → Nat) {b : Nat} (h : b < len) : b < te len t b := by
  unfold te
  rw [if_pos h]
  have := rn_le t (ks (t b)) (len - (b + 1)) (b + 1)
  split <;> omega
theorem te_all {len : Nat} (t : Nat → Nat) {b j : Nat} (h1 : b ≤ j) (h2 : j < te len t b) : ks (t j) = ks (t b) := by
  unfold te at h2
  by_cases c : b < len
  · rw [if_pos c] at h2
    by_cases d : ks (t b) = 3
    · rw [if_pos d] at h2
      rw [show j = b by omega]
    · rw [if_neg d] at h2
      by_cases e : j = b
      · rw [e]
      · exact rn_all t _ _ _ j (by omega) h2
  · rw [if_neg c] at h2; omega
theorem tb_le {len : Nat} (t : Nat → Nat) {e : Nat} (h : e ≤ len) : e ≤ tb len t e ∧ tb len t e ≤ len := by
  have := sk_le t (len - e) e
  unfold tb
  omega
/-- all but where the reference's token lies -/
def FT (Tm Ta : Gp) : Prop := ∀ c i, ¬ (c = 0 ∧ (i = 13 ∨ i = 14 ∨ i = 15)) → Ta c i = Tm c i
theorem FT_t {A B C : Gp} (h : FT A B) (g : FT B C) : FT A C := fun c i e => (g c i e).trans (h c i e)
theorem FT_u {A : Gp} {i : Nat} {v : Int32} (h : i = 13 ∨ i = 14 ∨ i = 15) : FT A (u2 A 0 i v) := fun c j e => by
  rw [u2_ap, if_neg (by omega)]
theorem FT_FO {A B : Gp} (h : FT A B) : FO 0 A B := fun c i e _ => h c i (by
  intro f
  apply e
  rcases f with ⟨rfl, rfl | rfl | rfl⟩ <;> rfl)
section TOK
variable {Tx Tm Tk : Gp} {len : Nat} {t : Nat → Nat}
theorem XT_f {Ta : Gp} (h : XT len t Tx Tm) (f : FT Tm Ta) : XT len t Tx Ta := by
  obtain ⟨h0, h1, h2, h3⟩ := h
  refine ⟨h0, h1, by rw [f 0 3 (by omega)]; exact h2, fun i hi => ?_⟩
  rw [f 3 i (by omega)]
  exact h3 i hi
theorem c_signAt (h : XT len t Tx Tm) {i : Nat} (hi : i < 2 ^ 31) : fX7_signAt Tx (nI i) = some (if i < len then nI (t i) else -nI 1) := by
  obtain ⟨h0, h1, h2, h3⟩ := h
  unfold fX7_signAt
  rw [h1]
  have q0 : (nI i < nI 0) = False := by rw [e_lt (by omega) (by omega)]; exact eq_false (by omega)
  simp only [m1_eq]
  simp only [lit, q0, if_false, e_le (show len < 2 ^ 31 by omega) hi, e_le (show 200 < 2 ^ 31 by omega) hi, e_ix hi]
  rw [cl_nI hi]
  by_cases c : i < len
  · rw [if_neg (by omega), if_neg (by omega), if_pos (by omega), if_pos c, (h3 i c).2.1]
  · rw [if_pos (by omega), if_neg c]
theorem c_kindOfSign {c : Nat} (hc : c < 256) : fX8_kindOfSign (nI c) = some (nI (ks c)) := by
  unfold fX8_kindOfSign fX8_kindOfSign_21 ks
  simp only [m1_eq]
  have q0 : (nI c = -nI 1) = False := e_eqm (by omega)
  simp only [lit, q0, if_false, e_lt (show c < 2 ^ 31 by omega) (show 97 < 2 ^ 31 by omega), e_lt (show c < 2 ^ 31 by omega) (show 48 < 2 ^ 31 by omega), e_lt (show 122 < 2 ^ 31 by omega) (show c < 2 ^ 31 by omega), e_lt (show 57 < 2 ^ 31 by omega) (show c < 2 ^ 31 by omega)]
  by_cases a : 97 ≤ c ∧ c ≤ 122
  · rw [if_neg (by omega), if_neg (by omega), if_pos a]
  · rw [if_neg a]
    by_cases b : 48 ≤ c ∧ c ≤ 57
    · rw [if_pos (by omega), if_neg (by omega), if_neg (by omega), if_pos b]
    · rw [if_neg b]
      by_cases d : c < 97
      · rw [if_pos d]
        by_cases e : c < 48
        · rw [if_pos e]
        · rw [if_neg e, if_pos (by omega)]
      · rw [if_neg d, if_pos (by omega), if_neg (by omega), if_pos (by omega)]
theorem c_kindEnd : fX8_kindOfSign (-nI 1) = some (nI 0) := by
  unfold fX8_kindOfSign
  simp only [m1_eq, lit, if_true]
theorem c_kindAt (h : XT len t Tx Tm) {i : Nat} (hi : i < 2 ^ 31) {γ : Type} (k : Int32 → Option γ) : bd1 (fX7_signAt Tx (nI i)) (fun r => bd1 (fX8_kindOfSign r) k) = k (nI (kn len t i)) := by
  rw [c_signAt h hi]
  unfold kn
  by_cases c : i < len
  · rw [if_pos c, if_pos c]
    simp only [bd1_s, c_kindOfSign (h.2.2.2 i c).1]
  · rw [if_neg c, if_neg c]
    simp only [bd1_s, c_kindEnd]
def so (c : Nat) : Nat := if 97 ≤ c ∧ c ≤ 122 then 1 else if 48 ≤ c ∧ c ≤ 57 then 2 else 0
theorem m_sort {c : Nat} (hc : c < 256) : fX11_sort (nI c) = some (nI (so c)) := by
  unfold fX11_sort fX11_sort_16 so
  simp only [lit, e_lt (show c < 2 ^ 31 by omega) (show 97 < 2 ^ 31 by omega), e_lt (show c < 2 ^ 31 by omega) (show 48 < 2 ^ 31 by omega), e_lt (show 122 < 2 ^ 31 by omega) (show c < 2 ^ 31 by omega), e_lt (show 57 < 2 ^ 31 by omega) (show c < 2 ^ 31 by omega)]
  by_cases a : 97 ≤ c ∧ c ≤ 122
  · rw [if_neg (by omega), if_neg (by omega), if_pos a]
  · rw [if_neg a]
    by_cases b : 48 ≤ c ∧ c ≤ 57
    · rw [if_pos (by omega), if_neg (by omega), if_neg (by omega), if_pos b]
    · rw [if_neg b]
      by_cases d : c < 97
      · rw [if_pos d]
        by_cases e : c < 48
        · rw [if_pos e]
        · rw [if_neg e, if_pos (by omega)]
      · rw [if_neg d, if_pos (by omega), if_neg (by omega), if_pos (by omega)]
theorem so_ks (c d : Nat) : (so c = so d ↔ ks c = ks d) ∧ (so c = 0 ↔ ks c = 3) ∧ (so c = 2 ↔ ks c = 2) ∧ so c ≤ 2 ∧ 1 ≤ ks c ∧ ks c ≤ 3 := by
  unfold so ks
  by_cases a : 97 ≤ c ∧ c ≤ 122
  · by_cases b : 97 ≤ d ∧ d ≤ 122
    · simp [a, b]
    · by_cases b2 : 48 ≤ d ∧ d ≤ 57 <;> simp [a, b, b2]
  · by_cases a2 : 48 ≤ c ∧ c ≤ 57
    · by_cases b : 97 ≤ d ∧ d ≤ 122
      · simp [a, a2, b]
      · by_cases b2 : 48 ≤ d ∧ d ≤ 57 <;> simp [a, a2, b, b2]
    · by_cases b : 97 ≤ d ∧ d ≤ 122
      · simp [a, a2, b]
      · by_cases b2 : 48 ≤ d ∧ d ≤ 57 <;> simp [a, a2, b, b2]
theorem c_104 (h : XT len t Tx Tm) {s : Nat} (hs : 1 ≤ s) (hs2 : s ≤ 3) : ∀ k e n Tk, e + k = len → k < n → Tk 0 2 = nI e → Tk 0 3 = nI s → ∃ Ta, lX8_advance_104 Tx n Tk = some Ta ∧ Ta 0 1 = Tk 0 1 ∧ Ta 0 2 = nI (rn t s k e) ∧ Ta 0 3 = Tk 0 3 := by
  have hl := h.1
  intro k
  induction k with
  | zero =>
    intro e n Tk hk hn h2 h3
    obtain ⟨n, rfl, -⟩ := gt_s hn
    rw [sX8_advance_104]
    unfold fX8_advance_104
    rw [h.2.1, h2, if_pos (by rw [e_le (by omega) (by omega)]; omega)]
    exact ⟨Tk, rfl, rfl, h2, rfl⟩
  | succ k ih =>
    intro e n Tk hk hn h2 h3
    obtain ⟨n, rfl, hn⟩ := gt_s hn
    rw [sX8_advance_104]
    unfold fX8_advance_104
    rw [h.2.1, h2, if_neg (by rw [e_le (by omega) (by omega)]; omega), c_kindAt h (by omega), h3]
    have hk3 := (so_ks (t e) 0).2.2.2.2
    have ek : kn len t e = ks (t e) := by unfold kn; rw [if_pos (by omega)]
    rw [ek, if_eqn (by omega) (by omega)]
    show ∃ Ta : Gp, _ = some Ta ∧ Ta 0 1 = Tk 0 1 ∧ Ta 0 2 = nI (if ks (t e) = s then rn t s k (e + 1) else e) ∧ Ta 0 3 = nI s
    by_cases c : ks (t e) = s
    · rw [if_pos c, if_pos c]
      obtain ⟨Ta, a1, a2, a3, a4⟩ := ih (e + 1) n (u2 Tk 0 2 (nI e + 1)) (by omega) (by omega) (by rw [u2_same, lit, e_add]) (by rw [u2_ap, if_neg (by omega)]; exact h3)
      refine ⟨Ta, a1, a2.trans ?_, a3, a4.trans ?_⟩
      · rw [u2_ap, if_neg (by omega)]
      · rw [u2_ap, if_neg (by omega)]; exact h3
    · rw [if_neg c, if_neg c]
      exact ⟨Tk, rfl, rfl, h2, h3⟩
theorem c_51 (h : XT len t Tx Tm) {b : Nat} (hb : b ≤ len) (h1 : Tk 0 1 = nI b) : ∃ Ta, fX8_advance_51 Tx Tk = some Ta ∧ Ta 0 1 = nI b ∧ Ta 0 2 = nI (te len t b) ∧ Ta 0 3 = nI (kn len t b) := by
  have hl := h.1
  unfold fX8_advance_51
  rw [h1, c_kindAt h (by omega)]
  have hk3 := (so_ks (t b) 0).2.2.2.2
  have ek : kn len t b = if b < len then ks (t b) else 0 := rfl
  have et : te len t b = if b < len then (if ks (t b) = 3 then b + 1 else rn t (ks (t b)) (len - (b + 1)) (b + 1)) else b := rfl
  rw [ek, et]
  simp only [lit, e_add]
  by_cases c : b < len
  · rw [if_pos c, if_pos c, if_eqn (by omega) (by omega), if_neg (by omega), if_eqn (by omega) (by omega)]
    by_cases d : ks (t b) = 3
    · rw [if_pos d, if_pos d]
      refine ⟨_, rfl, ?_, u2_same _ _ _ _, ?_⟩
      · rw [u2_ap, if_neg (by omega), u2_ap, if_neg (by omega), u2_ap, if_neg (by omega)]; exact h1
      · rw [u2_ap, if_neg (by omega), u2_ap, if_neg (by omega), u2_same]
    · rw [if_neg d, if_neg d]
      obtain ⟨Ta, a1, a2, a3, a4⟩ := c_104 h (s := ks (t b)) (by omega) (by omega) (len - (b + 1)) (b + 1) fu (u2 (u2 (u2 Tk 0 3 (nI (ks (t b)))) 0 2 (nI b)) 0 2 (nI (b + 1))) (by omega) (fu_gt (by omega)) (u2_same _ _ _ _) (by rw [u2_ap, if_neg (by omega), u2_ap, if_neg (by omega), u2_same])
      refine ⟨Ta, a1, a2.trans ?_, a3, a4.trans ?_⟩
      · rw [u2_ap, if_neg (by omega), u2_ap, if_neg (by omega), u2_ap, if_neg (by omega)]; exact h1
      · rw [u2_ap, if_neg (by omega), u2_ap, if_neg (by omega), u2_same]
  · rw [if_neg c, if_neg c, if_pos rfl]
    refine ⟨_, rfl, ?_, u2_same _ _ _ _, ?_⟩
    · rw [u2_ap, if_neg (by omega), u2_ap, if_neg (by omega)]; exact h1
    · rw [u2_ap, if_neg (by omega), u2_same]
theorem c_8 (h : XT len t Tx Tm) : ∀ k b n Tk, b + k = len → k < n → Tk 0 1 = nI b → ∃ Ta, lX8_advance_8 Tx n Tk = some Ta ∧ Ta 0 1 = nI (sk t k b) ∧ Ta 0 2 = nI (te len t (sk t k b)) ∧ Ta 0 3 = nI (kn len t (sk t k b)) := by
  have hl := h.1
  intro k
  induction k with
  | zero =>
    intro b n Tk hk hn h1
    obtain ⟨n, rfl, -⟩ := gt_s hn
    rw [sX8_advance_8]
    unfold fX8_advance_8
    rw [h.2.1, h1, if_pos (by rw [e_le (by omega) (by omega)]; omega)]
    exact c_51 (b := b) h (by omega) h1
  | succ k ih =>
    intro b n Tk hk hn h1
    obtain ⟨n, rfl, hn⟩ := gt_s hn
    rw [sX8_advance_8]
    unfold fX8_advance_8
    have h3 := h.2.2.2 b (by omega)
    rw [h.2.1, h1, if_neg (by rw [e_le (by omega) (by omega)]; omega), c_signAt h (by omega), if_pos (show b < len by omega)]
    simp only [bd1_s, lit, e_add]
    rw [if_eqn (by omega) (by omega)]
    show ∃ Ta : Gp, _ = some Ta ∧ Ta 0 1 = nI (if t b = 32 then sk t k (b + 1) else b) ∧ Ta 0 2 = nI (te len t (if t b = 32 then sk t k (b + 1) else b)) ∧ Ta 0 3 = nI (kn len t (if t b = 32 then sk t k (b + 1) else b))
    by_cases c : t b = 32
    · rw [if_pos c, if_pos c]
      exact ih (b + 1) n _ (by omega) (by omega) (u2_same _ _ _ _)
    · rw [if_neg c, if_neg c]
      exact c_51 (b := b) h (by omega) h1
theorem c_advance (h : XT len t Tx Tm) {e : Nat} (he : e ≤ len) (h2 : Tk 0 2 = nI e) : ∃ Ta, fX8_advance Tk Tx = some Ta ∧ Ta 0 1 = nI (tb len t e) ∧ Ta 0 2 = nI (te len t (tb len t e)) ∧ Ta 0 3 = nI (kn len t (tb len t e)) := by
  have hl := h.1
  unfold fX8_advance
  rw [h2]
  exact c_8 h (len - e) e fu _ (by omega) (fu_gt (by omega)) (u2_same _ _ _ _)
/-! the reference's -/
theorem m_71 {b : Nat} (hb : b < len) : ∀ k e n Tm, XT len t Tx Tm → e + k = len → k < n → Tm 0 14 = nI b → Tm 0 13 = nI e → ∃ Ta, lX11_token_71 n Tm = some Ta ∧ FT Tm Ta ∧ Ta 0 13 = nI (if ks (t b) = 3 then e else rn t (ks (t b)) k e) ∧ Ta 0 14 = nI b ∧ Ta 0 15 = nI (if ks (t b) = 3 then e else rn t (ks (t b)) k e) := by
  intro k
  induction k with
  | zero =>
    intro e n Tm h hk hn h14 h13
    have hl := h.1
    obtain ⟨n, rfl, -⟩ := gt_s hn
    rw [sX11_token_71]
    unfold fX11_token_71
    rw [h.2.2.1, h13, if_pos (by rw [e_le (by omega) (by omega)]; omega)]
    have e0 : (if ks (t b) = 3 then e else rn t (ks (t b)) 0 e) = e := by split <;> rfl
    rw [e0]
    refine ⟨_, rfl, FT_u (by omega), ?_, ?_, u2_same _ _ _ _⟩
    · rw [u2_ap, if_neg (by omega)]; exact h13
    · rw [u2_ap, if_neg (by omega)]; exact h14
  | succ k ih =>
    intro e n Tm h hk hn h14 h13
    have hl := h.1
    obtain ⟨n, rfl, hn⟩ := gt_s hn
    rw [sX11_token_71]
    unfold fX11_token_71
    have hb3 := h.2.2.2 b hb
    have he3 := h.2.2.2 e (by omega)
    have sb := so_ks (t b) (t e)
    have se := so_ks (t e) (t b)
    have q1 : (ix (nI b) 200) = True := by rw [e_ix (by omega)]; exact eq_true (by omega)
    have q2 : (ix (nI e) 200) = True := by rw [e_ix (by omega)]; exact eq_true (by omega)
    have q3 : (nI len ≤ nI e) = False := by rw [e_le (by omega) (by omega)]; exact eq_false (by omega)
    rw [h.2.2.1, h13, h14]
    simp only [q1, q2, q3, if_true, if_false, cl_nI (show b < 2 ^ 31 by omega), cl_nI (show e < 2 ^ 31 by omega), hb3.2.2, he3.2.2, m_sort hb3.1, m_sort he3.1, bd1_s, lit, e_add]
    rw [if_le (by omega) (by omega), if_eqn (by omega) (by omega)]
    by_cases c : ks (t b) = 3
    · rw [if_pos (by omega), if_pos c]
      refine ⟨_, rfl, FT_u (by omega), ?_, ?_, u2_same _ _ _ _⟩
      · rw [u2_ap, if_neg (by omega)]; exact h13
      · rw [u2_ap, if_neg (by omega)]; exact h14
    · rw [if_neg (by omega), if_neg c]
      have er : rn t (ks (t b)) (k + 1) e = if ks (t e) = ks (t b) then rn t (ks (t b)) k (e + 1) else e := rfl
      rw [er]
      by_cases d : ks (t e) = ks (t b)
      · rw [if_pos (by omega), if_pos d]
        have := ih (e + 1) n (u2 Tm 0 13 (nI (e + 1))) (XT_f h (FT_u (by omega))) (by omega) (by omega) (by rw [u2_ap, if_neg (by omega)]; exact h14) (u2_same _ _ _ _)
        rw [if_neg c] at this
        obtain ⟨Ta, a1, a2, a3⟩ := this
        exact ⟨Ta, a1, FT_t (FT_u (by omega)) a2, a3⟩
      · rw [if_neg (by omega), if_neg d]
        refine ⟨_, rfl, FT_u (by omega), ?_, ?_, u2_same _ _ _ _⟩
        · rw [u2_ap, if_neg (by omega)]; exact h13
        · rw [u2_ap, if_neg (by omega)]; exact h14
theorem m_38 (h : XT len t Tx Tm) {b : Nat} (hb : b ≤ len) (h13 : Tm 0 13 = nI b) : ∃ Ta, fX11_token_38 Tm = some Ta ∧ FT Tm Ta ∧ Ta 0 13 = nI (te len t b) ∧ Ta 0 14 = nI b ∧ Ta 0 15 = nI (te len t b) := by
  have hl := h.1
  unfold fX11_token_38
  rw [h.2.2.1, h13, if_le (by omega) (by omega)]
  have et : te len t b = if b < len then (if ks (t b) = 3 then b + 1 else rn t (ks (t b)) (len - (b + 1)) (b + 1)) else b := rfl
  rw [et]
  simp only [lit, e_add]
  by_cases c : b < len
  · rw [if_neg (by omega), if_pos c]
    have f2 : FT Tm (u2 (u2 Tm 0 14 (nI b)) 0 13 (nI (b + 1))) := FT_t (FT_u (by omega)) (FT_u (by omega))
    obtain ⟨Ta, a1, a2, a3, a4, a5⟩ := m_71 c (len - (b + 1)) (b + 1) fu (u2 (u2 Tm 0 14 (nI b)) 0 13 (nI (b + 1))) (XT_f h f2) (by omega) (fu_gt (by omega)) (by rw [u2_ap, if_neg (by omega), u2_same]) (u2_same _ _ _ _)
    exact ⟨Ta, a1, FT_t f2 a2, a3, a4, a5⟩
  · rw [if_pos (by omega), if_neg c]
    obtain ⟨n, hn⟩ := fu_ex
    have hn2 : fu = n + 99989 + 1 := hn
    rw [hn2, sX11_token_71]
    unfold fX11_token_71
    have e3 : u2 (u2 Tm 0 14 (nI b)) 0 13 (nI (b + 0)) 0 3 = nI len := by
      rw [u2_ap, if_neg (by omega), u2_ap, if_neg (by omega)]; exact h.2.2.1
    have e13 : u2 (u2 Tm 0 14 (nI b)) 0 13 (nI (b + 0)) 0 13 = nI b := u2_same _ _ _ _
    rw [e3, e13, if_pos (by rw [e_le (by omega) (by omega)]; omega)]
    refine ⟨_, rfl, FT_t (FT_t (FT_u (by omega)) (FT_u (by omega))) (FT_u (by omega)), ?_, ?_, u2_same _ _ _ _⟩
    · rw [u2_ap, if_neg (by omega), u2_same]; rfl
    · rw [u2_ap, if_neg (by omega), u2_ap, if_neg (by omega), u2_same]
theorem m_0 : ∀ k b n Tm, XT len t Tx Tm → b + k = len → k < n → Tm 0 13 = nI b → ∃ Ta, lX11_token_0 n Tm = some Ta ∧ FT Tm Ta ∧ Ta 0 13 = nI (te len t (sk t k b)) ∧ Ta 0 14 = nI (sk t k b) ∧ Ta 0 15 = nI (te len t (sk t k b)) := by
  intro k
  induction k with
  | zero =>
    intro b n Tm h hk hn h13
    have hl := h.1
    obtain ⟨n, rfl, -⟩ := gt_s hn
    rw [sX11_token_0]
    unfold fX11_token_0
    rw [h.2.2.1, h13, if_pos (by rw [e_le (by omega) (by omega)]; omega)]
    exact m_38 (b := b) h (by omega) h13
  | succ k ih =>
    intro b n Tm h hk hn h13
    have hl := h.1
    obtain ⟨n, rfl, hn⟩ := gt_s hn
    rw [sX11_token_0]
    unfold fX11_token_0
    have h3 := h.2.2.2 b (by omega)
    have q2 : (ix (nI b) 200) = True := by rw [e_ix (by omega)]; exact eq_true (by omega)
    have q3 : (nI len ≤ nI b) = False := by rw [e_le (by omega) (by omega)]; exact eq_false (by omega)
    rw [h.2.2.1, h13]
    simp only [q2, q3, if_true, if_false, cl_nI (show b < 2 ^ 31 by omega), h3.2.2, lit, e_add]
    rw [if_eqn (by omega) (by omega)]
    show ∃ Ta : Gp, _ = some Ta ∧ FT Tm Ta ∧ Ta 0 13 = nI (te len t (if t b = 32 then sk t k (b + 1) else b)) ∧ Ta 0 14 = nI (if t b = 32 then sk t k (b + 1) else b) ∧ Ta 0 15 = nI (te len t (if t b = 32 then sk t k (b + 1) else b))
    by_cases c : t b = 32
    · rw [if_pos c, if_pos c]
      obtain ⟨Ta, a1, a2, a3⟩ := ih (b + 1) n _ (XT_f h (FT_u (show 13 = 13 ∨ 13 = 14 ∨ 13 = 15 by omega))) (by omega) (by omega) (u2_same _ _ _ _)
      exact ⟨Ta, a1, FT_t (FT_u (by omega)) a2, a3⟩
    · rw [if_neg c, if_neg c]
      exact m_38 (b := b) h (by omega) h13
theorem m_token (h : XT len t Tx Tm) {e : Nat} (he : e ≤ len) (h13 : Tm 0 13 = nI e) : ∃ Ta, fX11_token Tm = some Ta ∧ FT Tm Ta ∧ Ta 0 13 = nI (te len t (tb len t e)) ∧ Ta 0 14 = nI (tb len t e) ∧ Ta 0 15 = nI (te len t (tb len t e)) := by
  have hl := h.1
  unfold fX11_token
  exact m_0 (len - e) e fu Tm h (by omega) (fu_gt (by omega)) h13
/-- both stand at the token that begins at b -/
def KK (len : Nat) (t : Nat → Nat) (Tk Tm : Gp) (b : Nat) : Prop := b ≤ len ∧ Tk 0 1 = nI b ∧ Tk 0 2 = nI (te len t b) ∧ Tk 0 3 = nI (kn len t b) ∧ Tm 0 13 = nI (te len t b) ∧ Tm 0 14 = nI b ∧ Tm 0 15 = nI (te len t b)
theorem both_token (h : XT len t Tx Tm) {e : Nat} (he : e ≤ len) (h2 : Tk 0 2 = nI e) (h13 : Tm 0 13 = nI e) : ∃ Ta Tb b, fX8_advance Tk Tx = some Ta ∧ fX11_token Tm = some Tb ∧ FT Tm Tb ∧ KK len t Ta Tb b := by
  obtain ⟨Ta, a1, a2, a3, a4⟩ := c_advance h he h2
  obtain ⟨Tb, b1, b2, b3, b4, b5⟩ := m_token h he h13
  exact ⟨Ta, Tb, tb len t e, a1, b1, b2, (tb_le t he).2, a2, a3, a4, b3, b4, b5⟩
theorem both_next (h : XT len t Tx Tm) {b : Nat} (hk : KK len t Tk Tm b) : ∃ Ta Tb b', fX8_advance Tk Tx = some Ta ∧ fX11_token Tm = some Tb ∧ FT Tm Tb ∧ KK len t Ta Tb b' := both_token h (te_le t hk.1).2 hk.2.2.1 hk.2.2.2.2.1
end TOK
