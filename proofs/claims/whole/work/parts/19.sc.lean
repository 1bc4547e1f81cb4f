def mnF (f : Nat → Nat) : Nat → Nat → Nat → Nat
  | 0, _, v => v
  | k + 1, i, v => mnF f k (i + 1) (min v (f i))
theorem mnF_4 {f : Nat → Nat} {t : Nat} (h : fN t f) (ht : t < 500) : mnF f 4 0 1000 = min4 f := by
  have h0 := h 0
  have h1 := h 1
  have h2 := h 2
  have h3 := h 3
  show min (min (min (min 1000 (f 0)) (f 1)) (f 2)) (f 3) = min (min (f 0) (f 1)) (min (f 2) (f 3))
  omega
def encA (v : Nat) : Int32 := if v < 1000 then nI v else -nI 1
def MIL : Nat := 1000000
theorem nS_inf (al : Nat → Nat → Bool) (fr : Nat) : ∀ k t f, (∀ x, f x = 1000) → ∀ x, nS al fr k t f x = 1000 := by
  intro k
  induction k with
  | zero => intro t f h; exact h
  | succ k ih =>
    intro t f h
    refine ih (t + 1) _ (fun x => ?_)
    unfold nSt min4
    rw [h 0, h 1, h 2, h 3, h x]
    split
    · split <;> omega
    · rfl
section NEWS3
variable {Tm Tn : Gp}
theorem m_253 {f : Nat → Nat} (hf : fN 12 f) (h11 : sN FAR f Tm 11) : ∀ (k i n v : Nat), i + k = 4 → k < n → (v ≤ 12 ∨ v = 1000) → lX11_news_253 n Tm (nI (enc FAR v)) (nI i) = some (encA (mnF f k i v), Tm) := by
  have hF : FAR = 268435456 := rfl
  intro k
  induction k with
  | zero =>
    intro i n v hk hn hv
    obtain ⟨n, rfl, -⟩ := gt_s hn
    have he : enc FAR v < 2 ^ 31 := by unfold enc; split <;> omega
    rw [sX11_news_253]
    unfold fX11_news_253
    have q0 : (nI 4 ≤ nI i) = True := by rw [e_le (by omega) (by omega)]; exact eq_true (by omega)
    simp only [lit, q0, if_true, e_lt he (show 268435456 < 2 ^ 31 by omega)]
    show _ = some (encA v, Tm)
    unfold encA enc
    by_cases h : v < 1000
    · rw [if_pos h, if_pos (by omega), if_pos h]
    · rw [if_neg h, if_neg (by omega), if_neg h]
  | succ k ih =>
    intro i n v hk hn hv
    obtain ⟨n, rfl, hn⟩ := gt_s hn
    have hfi := hf i
    have he : enc FAR v < 2 ^ 31 := by unfold enc; split <;> omega
    have he2 : enc FAR (f i) < 2 ^ 31 := by unfold enc; split <;> omega
    have ih2 := ih (i + 1) n (min v (f i)) (by omega) (by omega) (by omega)
    rw [sX11_news_253]
    unfold fX11_news_253
    have q0 : (nI 4 ≤ nI i) = False := by rw [e_le (by omega) (by omega)]; exact eq_false (by omega)
    have q1 : (ix (nI i) 4) = True := by rw [e_ix (by omega)]; exact eq_true (by omega)
    simp only [lit, q0, q1, if_true, if_false, e_add]
    rw [cl_nI (show i < 2 ^ 31 by omega), h11 i (by omega)]
    simp only [e_le he he2]
    by_cases h : v ≤ f i
    · rw [Nat.min_eq_left h] at ih2
      rw [if_pos (by unfold enc; split <;> split <;> omega), ih2]
      show _ = some (encA (mnF f k (i + 1) (min v (f i))), Tm)
      rw [Nat.min_eq_left h]
    · rw [Nat.min_eq_right (by omega)] at ih2
      rw [if_neg (by unfold enc; split <;> split <;> omega), ih2]
      show _ = some (encA (mnF f k (i + 1) (min v (f i))), Tm)
      rw [Nat.min_eq_right (by omega)]
def f0N : Nat → Nat := fun x => if x = 0 then 0 else 1000
theorem f0_fN : fN 0 f0N := fun x => by unfold f0N; split <;> omega
theorem m_30 (x1 N fr fl : Int32) : ∀ (k i n : Nat) (Tm : Gp), i + k = 4 → k < n → (∀ j, j < i → Tm 11 j = nI (enc FAR (f0N j))) → ∃ Ta, lX11_news_30 n Tm x1 N fr fl (nI i) = lX11_news_63 fu Ta x1 N fr fl (nI 0) ∧ sN FAR f0N Ta 11 ∧ ∀ c, c ≠ 11 → Ta c = Tm c := by
  intro k
  induction k with
  | zero =>
    intro i n Tm hk hn h
    obtain ⟨n, rfl, -⟩ := gt_s hn
    refine ⟨Tm, ?_, fun j hj => h j (by omega), fun _ _ => rfl⟩
    rw [sX11_news_30]
    unfold fX11_news_30
    simp only [lit]
    exact if_pos (by rw [e_le (by omega) (by omega)]; omega)
  | succ k ih =>
    intro i n Tm hk hn h
    obtain ⟨n, rfl, hn⟩ := gt_s hn
    obtain ⟨Ta, e, s, f⟩ := ih (i + 1) n (u2 Tm 11 i (nI (enc FAR (f0N i)))) (by omega) (by omega) (fun j hj => by
      rw [u2_ap]
      by_cases g : j = i
      · rw [if_pos ⟨rfl, g⟩, g]
      · rw [if_neg (by omega)]; exact h j (by omega))
    refine ⟨Ta, ?_, s, fun c hc => by rw [f c hc, u2_c hc]⟩
    rw [sX11_news_30]
    unfold fX11_news_30
    have q0 : (nI 4 ≤ nI i) = False := by rw [e_le (by omega) (by omega)]; exact eq_false (by omega)
    have q1 : (ix (nI i) 4) = True := by rw [e_ix (by omega)]; exact eq_true (by omega)
    simp only [lit, q0, q1, if_true, if_false, e_add, e_eq (show i < 2 ^ 31 by omega) (show 0 < 2 ^ 31 by omega)]
    rw [cl_nI (show i < 2 ^ 31 by omega), ← e]
    by_cases g : i = 0
    · rw [if_pos g, g]; rfl
    · rw [if_neg g]
      have : enc FAR (f0N i) = 268435456 := by unfold f0N; rw [if_neg g]; rfl
      rw [this]
theorem m_news (x1 : Int32) {N fr : Nat} (fl : Bool) (hN : N ≤ 12) (hN1 : 1 ≤ N) (hfr : fr ≤ 9) : ∃ Ta, fX11_news Tm x1 (nI N) (nI fr) (bI fl) = some (encA (min4 (nS (alN x1 fl) fr N 0 f0N)), Ta) ∧ FO 0 Tm Ta := by
  obtain ⟨T1, e1, s1, f1⟩ := m_30 x1 (nI N) (nI fr) (bI fl) 4 0 fu Tm (by omega) (fu_gt (by omega)) (fun j hj => by omega)
  obtain ⟨T2, e2, g2, s2, f2⟩ := m_63 (fl := fl) x1 hN hfr N 0 fu T1 f0N (by omega) (fu_gt (by omega)) f0_fN s1
  have g12 : fN 12 (nS (alN x1 fl) fr N 0 f0N) := fun x => by
    have := g2 x
    omega
  have e3 := m_253 (Tm := T2) g12 s2 4 0 fu 1000 (by omega) (fu_gt (by omega)) (Or.inr rfl)
  rw [mnF_4 g12 (by omega)] at e3
  refine ⟨T2, ?_, fun c i h1 _ => ?_⟩
  · unfold fX11_news
    simp only [lit]
    rw [n_rg (nI N) (a := 1) (b := 12) (by decide) (by decide), n_10, ok_nI (by omega) (by omega)]
    have : rg (nI N) 1 12 = true := by unfold rg; rw [nI_toInt (by omega)]; exact decide_eq_true ⟨by omega, by omega⟩
    rw [this]
    simp only [bd1_s, bI_0, Bool.true_eq_false, if_false]
    exact e1.trans (e2.trans e3)
  · have h11 : c ≠ 11 := fun e => h1 (by rw [e]; rfl)
    have h12 : c ≠ 12 := fun e => h1 (by rw [e]; rfl)
    rw [f2 c h11 h12, f1 c h11]
/-! the class's -/
theorem c_alike (x1 : Int32) {N fr : Nat} (hN : N ≤ 12) (hfr : fr ≤ 9) : ∀ (k t n cnt cur : Nat) (f : Nat → Nat), t + k = N → k < n → cnt ≤ t → cur < 4 → (∀ x, f x = if x = cur then cnt else 1000) → lX3_toBeAlike_9 Tn n x1 (nI N) (nI fr) (nI cnt) (nI cur) (nI t) = some (encA (min4 (nS (alN x1 true) fr k t f))) := by
  intro k
  induction k with
  | zero =>
    intro t n cnt cur f hk hn hc hu hf
    obtain ⟨n, rfl, -⟩ := gt_s hn
    rw [sX3_toBeAlike_9]
    unfold fX3_toBeAlike_9
    rw [if_pos (by rw [e_le (by omega) (by omega)]; omega)]
    have : min4 f = cnt := by
      unfold min4
      rw [hf 0, hf 1, hf 2, hf 3]
      have hu4 : cur = 0 ∨ cur = 1 ∨ cur = 2 ∨ cur = 3 := by omega
      rcases hu4 with rfl | rfl | rfl | rfl <;> simp only [reduceIte, Nat.reduceEqDiff] <;> omega
    show _ = some (encA (min4 f))
    rw [this]
    unfold encA
    rw [if_pos (by omega)]
  | succ k ih =>
    intro t n cnt cur f hk hn hc hu hf
    obtain ⟨n, rfl, hn⟩ := gt_s hn
    have hcl := cA_lt x1 t
    have hm4 : min4 f = cnt := by
      unfold min4
      rw [hf 0, hf 1, hf 2, hf 3]
      have hu4 : cur = 0 ∨ cur = 1 ∨ cur = 2 ∨ cur = 3 := by omega
      rcases hu4 with rfl | rfl | rfl | rfl <;> simp only [reduceIte, Nat.reduceEqDiff] <;> omega
    rw [sX3_toBeAlike_9]
    unfold fX3_toBeAlike_9
    have q0 : (nI N ≤ nI t) = False := by rw [e_le (by omega) (by omega)]; exact eq_false (by omega)
    simp only [lit, q0, c_class, bd1_s, if_false, e_add, e_eq (show cA x1 t < 2 ^ 31 by omega) (show cur < 2 ^ 31 by omega), e_le (show fr < 2 ^ 31 by omega) (show t < 2 ^ 31 by omega)]
    have hal : ∀ x, alN x1 true t x = decide (cA x1 t = x) := fun x => by unfold alN; cases decide (cA x1 t = x) <;> rfl
    by_cases hcu : cA x1 t = cur
    · rw [if_pos hcu]
      refine ih (t + 1) n cnt cur _ (by omega) (by omega) (by omega) hu (fun x => ?_)
      unfold nSt
      rw [hal, hm4, hf x, hcu]
      by_cases hx : x = cur
      · rw [if_pos hx, hx, if_pos (by simp)]
        split <;> omega
      · rw [if_neg hx, if_neg (by simp; omega)]
    · rw [if_neg hcu]
      by_cases hft : fr ≤ t
      · rw [if_pos hft]
        refine ih (t + 1) n (cnt + 1) (cA x1 t) _ (by omega) (by omega) (by omega) hcl (fun x => ?_)
        unfold nSt
        rw [hal, hm4, hf x, if_pos hft]
        by_cases hx : x = cA x1 t
        · rw [if_pos hx, hx, if_pos (by simp), if_neg hcu]
          omega
        · rw [if_neg hx, if_neg (by simp; omega)]
      · rw [if_neg hft]
        have hall : ∀ x, nSt (alN x1 true) fr t f x = 1000 := by
          intro x
          unfold nSt
          rw [hal, hf x, if_neg hft]
          by_cases hx : x = cA x1 t
          · rw [hx, if_pos (by simp), if_neg hcu]
            omega
          · rw [if_neg (by simp; omega)]
        have := nS_inf (alN x1 true) fr k (t + 1) _ hall
        show _ = some (encA (min4 (nS (alN x1 true) fr k (t + 1) (nSt (alN x1 true) fr t f))))
        unfold min4
        rw [this 0, this 1, this 2, this 3]
        rfl
end NEWS3
