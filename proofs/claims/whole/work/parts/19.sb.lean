section NEWS2
variable {Tm Tn : Gp}
theorem nSt_v (fr t : Nat) (f : Nat → Nat) (x : Nat) (hx4 : x = 0 ∨ x = 1 ∨ x = 2 ∨ x = 3) : min (min (min (min 1000 (vN fr t f x 0)) (vN fr t f x 1)) (vN fr t f x 2)) (vN fr t f x 3) = min 1000 (min (f x) (if fr ≤ t then min4 f + 1 else 1000)) := by
  unfold vN min4
  by_cases htf : t < fr
  · have hnt : (fr ≤ t) = False := eq_false (by omega)
    rcases hx4 with rfl | rfl | rfl | rfl <;> simp only [reduceIte, Nat.reduceEqDiff, htf, hnt] <;> omega
  · have hnt : (fr ≤ t) = True := eq_true (by omega)
    rcases hx4 with rfl | rfl | rfl | rfl <;> simp only [reduceIte, Nat.reduceEqDiff, htf, hnt] <;> omega
theorem m_90all (rec63 : Gp → Int32 → Int32 → Int32 → Int32 → Int32 → Option (Int32 × Gp)) (rec72 : Gp → Int32 → Int32 → Int32 → Int32 → Int32 → Int32 → Option (Int32 × Gp)) (x1 : Int32) {N fr t x : Nat} {fl : Bool} {f : Nat → Nat} (hN : N ≤ 12) (hfr : fr ≤ 9) (ht : t < N) (hx : x < 4) (hf : fN t f) (h11 : sN FAR f Tm 11) (h12 : Tm 12 x = nI FAR) : ∃ Ta, lX11_news_90 rec63 rec72 fu Tm x1 (nI N) (nI fr) (bI fl) (nI t) (nI x) (nI 0) = rec72 Ta x1 (nI N) (nI fr) (bI fl) (nI t) (nI (x + 1)) ∧ Ta 12 x = nI (enc FAR (nSt (alN x1 fl) fr t f x)) ∧ ∀ c j, (c ≠ 12 ∨ j ≠ x) → Ta c j = Tm c j := by
  have hn : ∃ n, fu = n + 1 + 1 + 1 + 1 + 1 := by
    obtain ⟨n, hn⟩ := fu_ex
    exact ⟨n + 99985, hn⟩
  obtain ⟨n, hn⟩ := hn
  rw [hn]
  have f0 := hf 0
  have f1 := hf 1
  have f2 := hf 2
  have f3 := hf 3
  have fx := hf x
  have vb : ∀ y, vN fr t f x y ≤ t + 1 ∨ vN fr t f x y = 1000 ∨ vN fr t f x y = 1001 := by
    intro y
    have := hf y
    unfold vN
    split
    · omega
    · split <;> omega
  have v0 := vb 0
  have v1 := vb 1
  have v2 := vb 2
  have v3 := vb 3
  obtain ⟨a1, ha1⟩ : ∃ a, a = if alN x1 fl t x = true then min 1000 (vN fr t f x 0) else 1000 := ⟨_, rfl⟩
  obtain ⟨a2, ha2⟩ : ∃ a, a = if alN x1 fl t x = true then min a1 (vN fr t f x 1) else a1 := ⟨_, rfl⟩
  obtain ⟨a3, ha3⟩ : ∃ a, a = if alN x1 fl t x = true then min a2 (vN fr t f x 2) else a2 := ⟨_, rfl⟩
  obtain ⟨a4, ha4⟩ : ∃ a, a = if alN x1 fl t x = true then min a3 (vN fr t f x 3) else a3 := ⟨_, rfl⟩
  have b1 : a1 ≤ t + 1 ∨ a1 = 1000 := by rw [ha1]; split <;> omega
  have b2 : a2 ≤ t + 1 ∨ a2 = 1000 := by rw [ha2]; split <;> omega
  have b3 : a3 ≤ t + 1 ∨ a3 = 1000 := by rw [ha3]; split <;> omega
  have e4 : a4 = nSt (alN x1 fl) fr t f x := by
    rw [ha4, ha3, ha2, ha1]
    unfold nSt
    cases h : alN x1 fl t x
    · simp
    · simp only [if_true]
      exact nSt_v fr t f x (by omega)
  have g11 : ∀ T v, sN FAR f T 11 → sN FAR f (u2 T 12 x v) 11 := fun T v hT y hy => by rw [u2_c (by omega)]; exact hT y hy
  refine ⟨u2 (u2 (u2 (u2 Tm 12 x (nI (enc FAR a1))) 12 x (nI (enc FAR a2))) 12 x (nI (enc FAR a3))) 12 x (nI (enc FAR a4)), ?_, by rw [u2_same, e4], fun c j hc => ?_⟩
  · rw [m_90 rec63 rec72 x1 (acc := 1000) (y := 0) (n + 1 + 1 + 1 + 1) hN hfr ht hx (by omega) hf (by omega) h11 (by rw [h12]; rfl), ← ha1]
    rw [m_90 rec63 rec72 x1 (acc := a1) (y := 1) (n + 1 + 1 + 1) hN hfr ht hx (by omega) hf b1 (g11 _ _ h11) (u2_same _ _ _ _), ← ha2]
    rw [m_90 rec63 rec72 x1 (acc := a2) (y := 2) (n + 1 + 1) hN hfr ht hx (by omega) hf b2 (g11 _ _ (g11 _ _ h11)) (u2_same _ _ _ _), ← ha3]
    rw [m_90 rec63 rec72 x1 (acc := a3) (y := 3) (n + 1) hN hfr ht hx (by omega) hf b3 (g11 _ _ (g11 _ _ (g11 _ _ h11))) (u2_same _ _ _ _), ← ha4]
    rw [sX11_news_90]
    unfold fX11_news_90
    simp only [lit, e_add]
    exact if_pos (by rw [e_le (by omega) (by omega)]; omega)
  · rw [u2_ap, if_neg (by omega), u2_ap, if_neg (by omega), u2_ap, if_neg (by omega), u2_ap, if_neg (by omega)]
theorem m_214 (rec63 : Gp → Int32 → Int32 → Int32 → Int32 → Int32 → Option (Int32 × Gp)) (x1 N fr fl : Int32) (t : Nat) : ∀ (k j n : Nat) (Tm : Gp), j + k = 4 → k < n → ∃ Ta, lX11_news_214 rec63 n Tm x1 N fr fl (nI t) (nI j) = rec63 Ta x1 N fr fl (nI (t + 1)) ∧ (∀ c, c ≠ 11 → Ta c = Tm c) ∧ (∀ i, i < j → Ta 11 i = Tm 11 i) ∧ ∀ i, j ≤ i → i < 4 → Ta 11 i = Tm 12 i := by
  intro k
  induction k with
  | zero =>
    intro j n Tm hk hn
    obtain ⟨n, rfl, -⟩ := gt_s hn
    refine ⟨Tm, ?_, fun _ _ => rfl, fun _ _ => rfl, fun i a b => by omega⟩
    rw [sX11_news_214]
    unfold fX11_news_214
    simp only [lit, e_add]
    exact if_pos (by rw [e_le (by omega) (by omega)]; omega)
  | succ k ih =>
    intro j n Tm hk hn
    obtain ⟨n, rfl, hn⟩ := gt_s hn
    obtain ⟨Ta, e, f, a, b⟩ := ih (j + 1) n (u2 Tm 11 j (Tm 12 j)) (by omega) (by omega)
    refine ⟨Ta, ?_, fun c hc => ?_, fun i hi => ?_, fun i h1 h2 => ?_⟩
    · rw [sX11_news_214]
      unfold fX11_news_214
      have q0 : (nI 4 ≤ nI j) = False := by rw [e_le (by omega) (by omega)]; exact eq_false (by omega)
      have q1 : (ix (nI j) 4) = True := by rw [e_ix (by omega)]; exact eq_true (by omega)
      simp only [lit, q0, q1, if_true, if_false, e_add]
      rw [cl_nI (show j < 2 ^ 31 by omega)]
      exact e
    · rw [f c hc, u2_c hc]
    · rw [a i (by omega), u2_ap, if_neg (by omega)]
    · by_cases h : i = j
      · rw [a i (by omega), u2_ap, if_pos ⟨rfl, h⟩, h]
      · rw [b i (by omega) h2, u2_c (by omega)]
theorem m_72 (rec63 : Gp → Int32 → Int32 → Int32 → Int32 → Int32 → Option (Int32 × Gp)) (x1 : Int32) {N fr t : Nat} {fl : Bool} {f : Nat → Nat} (hN : N ≤ 12) (hfr : fr ≤ 9) (ht : t < N) (hf : fN t f) : ∀ (k x n : Nat) (Tm : Gp), x + k = 4 → k < n → sN FAR f Tm 11 → ∃ Ta, lX11_news_72 rec63 n Tm x1 (nI N) (nI fr) (bI fl) (nI t) (nI x) = lX11_news_214 rec63 fu Ta x1 (nI N) (nI fr) (bI fl) (nI t) (nI 0) ∧ (∀ c, c ≠ 12 → Ta c = Tm c) ∧ (∀ i, i < x → Ta 12 i = Tm 12 i) ∧ ∀ i, x ≤ i → i < 4 → Ta 12 i = nI (enc FAR (nSt (alN x1 fl) fr t f i)) := by
  intro k
  induction k with
  | zero =>
    intro x n Tm hk hn h11
    obtain ⟨n, rfl, -⟩ := gt_s hn
    refine ⟨Tm, ?_, fun _ _ => rfl, fun _ _ => rfl, fun i a b => by omega⟩
    rw [sX11_news_72]
    unfold fX11_news_72
    simp only [lit]
    exact if_pos (by rw [e_le (by omega) (by omega)]; omega)
  | succ k ih =>
    intro x n Tm hk hn h11
    obtain ⟨n, rfl, hn⟩ := gt_s hn
    obtain ⟨T1, e1, g1, f1⟩ := m_90all (Tm := u2 Tm 12 x (nI FAR)) rec63 (lX11_news_72 rec63 n) x1 hN hfr ht (show x < 4 by omega) hf (fun y hy => by rw [u2_c (by omega)]; exact h11 y hy) (u2_same _ _ _ _) (fl := fl)
    obtain ⟨Ta, e, f, a, b⟩ := ih (x + 1) n T1 (by omega) (by omega) (fun y hy => by rw [f1 11 y (by omega), u2_c (by omega)]; exact h11 y hy)
    refine ⟨Ta, ?_, fun c hc => ?_, fun i hi => ?_, fun i h1 h2 => ?_⟩
    · rw [sX11_news_72]
      unfold fX11_news_72
      have q0 : (nI 4 ≤ nI x) = False := by rw [e_le (by omega) (by omega)]; exact eq_false (by omega)
      have q1 : (ix (nI x) 4) = True := by rw [e_ix (by omega)]; exact eq_true (by omega)
      simp only [lit, q0, q1, if_true, if_false]
      rw [cl_nI (show x < 2 ^ 31 by omega)]
      exact e1.trans e
    · rw [f c hc]
      funext j
      rw [f1 c j (by omega), u2_c hc]
    · rw [a i (by omega), f1 12 i (by omega), u2_i (by omega)]
    · by_cases h : i = x
      · rw [a i (by omega), h, g1]
      · exact b i (by omega) h2
theorem m_63 (x1 : Int32) {N fr : Nat} {fl : Bool} (hN : N ≤ 12) (hfr : fr ≤ 9) : ∀ (k t n : Nat) (Tm : Gp) (f : Nat → Nat), t + k = N → k < n → fN t f → sN FAR f Tm 11 → ∃ Ta, lX11_news_63 n Tm x1 (nI N) (nI fr) (bI fl) (nI t) = lX11_news_253 fu Ta (nI FAR) (nI 0) ∧ fN N (nS (alN x1 fl) fr k t f) ∧ sN FAR (nS (alN x1 fl) fr k t f) Ta 11 ∧ ∀ c, c ≠ 11 → c ≠ 12 → Ta c = Tm c := by
  intro k
  induction k with
  | zero =>
    intro t n Tm f hk hn hf h11
    obtain ⟨n, rfl, -⟩ := gt_s hn
    refine ⟨Tm, ?_, by rw [← hk]; exact hf, h11, fun _ _ _ => rfl⟩
    rw [sX11_news_63]
    unfold fX11_news_63
    simp only [lit]
    exact if_pos (by rw [e_le (by omega) (by omega)]; omega)
  | succ k ih =>
    intro t n Tm f hk hn hf h11
    obtain ⟨n, rfl, hn⟩ := gt_s hn
    obtain ⟨T1, e1, f1, -, b1⟩ := m_72 (lX11_news_63 n) x1 (fl := fl) hN hfr (show t < N by omega) hf 4 0 fu Tm (by omega) (fu_gt (by omega)) h11
    obtain ⟨T2, e2, f2, -, b2⟩ := m_214 (lX11_news_63 n) x1 (nI N) (nI fr) (bI fl) t 4 0 fu T1 (by omega) (fu_gt (by omega))
    obtain ⟨T3, e3, g3, s3, f3⟩ := ih (t + 1) n T2 (nSt (alN x1 fl) fr t f) (by omega) (by omega) (fN_s hf (by omega)) (fun y hy => by rw [b2 y (by omega) hy, b1 y (by omega) hy])
    refine ⟨T3, ?_, g3, s3, fun c h1 h2 => by rw [f3 c h1 h2, f2 c h1, f1 c h2]⟩
    rw [sX11_news_63]
    unfold fX11_news_63
    have q0 : (nI N ≤ nI t) = False := by rw [e_le (by omega) (by omega)]; exact eq_false (by omega)
    simp only [lit, q0, if_false]
    exact e1.trans (e2.trans e3)
end NEWS2
