section NEWS4
variable {Tm Tn : Gp}
theorem c_least {f : Nat → Nat} {t : Nat} (hf : fN t f) (ht : t < 500) (h1 : sN MIL f Tn 1) : fX3_leastOfAll Tn = some (nI (enc MIL (min4 f))) := by
  have hM : MIL = 1000000 := rfl
  have lp : ∀ (k i n v : Nat), i + k = 4 → k < n → (v ≤ t ∨ v = 1000) → lX3_leastOfAll_5 Tn n (nI (enc MIL v)) (nI i) = some (nI (enc MIL (mnF f k i v))) := by
    intro k
    induction k with
    | zero =>
      intro i n v hk hn hv
      obtain ⟨n, rfl, -⟩ := gt_s hn
      rw [sX3_leastOfAll_5]
      unfold fX3_leastOfAll_5
      have q0 : (nI 4 ≤ nI i) = True := by rw [e_le (by omega) (by omega)]; exact eq_true (by omega)
      simp only [lit, q0, if_true]
      rfl
    | succ k ih =>
      intro i n v hk hn hv
      obtain ⟨n, rfl, hn⟩ := gt_s hn
      have hfi := hf i
      rw [sX3_leastOfAll_5]
      unfold fX3_leastOfAll_5
      have q0 : (nI 4 ≤ nI i) = False := by rw [e_le (by omega) (by omega)]; exact eq_false (by omega)
      have q1 : (ix (nI i) 4) = True := by rw [e_ix (by omega)]; exact eq_true (by omega)
      have z := cl_nI (show i < 2 ^ 31 by omega)
      have g := h1 i (by omega)
      have em : imn (nI (enc MIL v)) (nI (enc MIL (f i))) = nI (enc MIL (min v (f i))) := by
        rw [e_imn (by unfold enc; split <;> omega) (by unfold enc; split <;> omega)]
        congr 1
        unfold enc
        split <;> split <;> split <;> omega
      simp only [lit, q0, q1, z, g, em, if_true, if_false, e_add]
      exact ih (i + 1) n _ (by omega) (by omega) (by omega)
  unfold fX3_leastOfAll
  have := lp 4 0 fu 1000 (by omega) (fu_gt (by omega)) (Or.inr rfl)
  rw [mnF_4 hf ht] at this
  exact this
theorem c_64 (rec36 : Gp → Int32 → Int32 → Int32 → Int32 → Option (Int32 × Gp)) (x1 : Int32) {N fr t V : Nat} {f : Nat → Nat} (hf : fN t f) (ht : t < 20) (hV : V = if fr ≤ t then enc MIL (min4 f) + 1 else MIL) : ∀ (k x n : Nat) (Tn : Gp), x + k = 4 → k < n → (∀ i, x ≤ i → i < 4 → Tn 1 i = nI (enc MIL (f i))) → ∃ Ta, lX3_toBeNeverAlike_64 rec36 n Tn x1 (nI N) (nI fr) (nI t) (nI V) (nI x) = rec36 Ta x1 (nI N) (nI fr) (nI (t + 1)) ∧ (∀ i, i < x → Ta 1 i = Tn 1 i) ∧ ∀ i, x ≤ i → i < 4 → Ta 1 i = nI (enc MIL (nSt (alN x1 false) fr t f i)) := by
  have hM : MIL = 1000000 := rfl
  intro k
  induction k with
  | zero =>
    intro x n Tn hk hn h
    obtain ⟨n, rfl, -⟩ := gt_s hn
    refine ⟨Tn, ?_, fun _ _ => rfl, fun i a b => by omega⟩
    rw [sX3_toBeNeverAlike_64]
    unfold fX3_toBeNeverAlike_64
    have q0 : (nI 4 ≤ nI x) = True := by rw [e_le (by omega) (by omega)]; exact eq_true (by omega)
    simp only [lit, q0, if_true, e_add]
  | succ k ih =>
    intro x n Tn hk hn h
    obtain ⟨n, rfl, hn⟩ := gt_s hn
    have hcl := cA_lt x1 t
    have hfx := hf x
    have h0 := hf 0
    have h1 := hf 1
    have h2 := hf 2
    have h3 := hf 3
    obtain ⟨Ta, e, a, b⟩ := ih (x + 1) n (u2 Tn 1 x (nI (enc MIL (nSt (alN x1 false) fr t f x)))) (by omega) (by omega) (fun i g1 g2 => by rw [u2_i (by omega)]; exact h i (by omega) g2)
    refine ⟨Ta, ?_, fun i hi => ?_, fun i g1 g2 => ?_⟩
    · rw [sX3_toBeNeverAlike_64]
      unfold fX3_toBeNeverAlike_64 fX3_toBeNeverAlike_86
      have q0 : (nI 4 ≤ nI x) = False := by rw [e_le (by omega) (by omega)]; exact eq_false (by omega)
      have q1 : (ix (nI x) 4) = True := by rw [e_ix (by omega)]; exact eq_true (by omega)
      have h10 : (nI 1 = nI 0) = False := by rw [e_eq (by omega) (by omega)]; exact eq_false (by omega)
      have z := cl_nI (show x < 2 ^ 31 by omega)
      have g := h x (Nat.le_refl _) (by omega)
      simp only [lit, q0, q1, z, g, h10, c_class, bd1_s, if_true, if_false, e_add, e_eq (show x < 2 ^ 31 by omega) (show cA x1 t < 2 ^ 31 by omega)]
      rw [← e]
      have hal : alN x1 false t x = !decide (cA x1 t = x) := by unfold alN; cases decide (cA x1 t = x) <;> rfl
      by_cases hcx : x = cA x1 t
      · rw [if_pos hcx]
        have : enc MIL (nSt (alN x1 false) fr t f x) = 1000000 := by
          unfold nSt
          rw [hal, if_neg (by simp [hcx])]
          rfl
        rw [this]
      · rw [if_neg hcx]
        have hVb : V ≤ 2000000 := by
          rw [hV]
          unfold enc
          split
          · split <;> omega
          · omega
        have : imn (nI (enc MIL (f x))) (nI V) = nI (enc MIL (nSt (alN x1 false) fr t f x)) := by
          rw [e_imn (by unfold enc; split <;> omega) (by omega)]
          congr 1
          unfold nSt
          have hne : ¬ cA x1 t = x := fun e => hcx e.symm
          rw [hal, if_pos (by simp [hne]), hV]
          unfold min4 enc
          by_cases hft : fr ≤ t
          · rw [if_pos hft, if_pos hft]
            split <;> split <;> split <;> omega
          · rw [if_neg hft, if_neg hft]
            split <;> split <;> omega
        rw [this]
    · rw [a i (by omega), u2_i (by omega)]
    · by_cases hx : i = x
      · rw [a i (by omega), hx, u2_same]
      · exact b i (by omega) g2
theorem c_36 (x1 : Int32) {N fr : Nat} (hN : N ≤ 12) (hfr : fr ≤ 9) : ∀ (k t n : Nat) (Tn : Gp) (f : Nat → Nat), t + k = N → k < n → fN t f → sN MIL f Tn 1 → ∃ Ta, lX3_toBeNeverAlike_36 n Tn x1 (nI N) (nI fr) (nI t) = some (encA (min4 (nS (alN x1 false) fr k t f)), Ta) := by
  have hM : MIL = 1000000 := rfl
  intro k
  induction k with
  | zero =>
    intro t n Tn f hk hn hf h1
    obtain ⟨n, rfl, -⟩ := gt_s hn
    have k1 := c_least hf (by omega) h1
    have b0 := hf 0
    have b1 := hf 1
    have b2 := hf 2
    have b3 := hf 3
    refine ⟨Tn, ?_⟩
    rw [sX3_toBeNeverAlike_36]
    unfold fX3_toBeNeverAlike_36
    have q0 : (nI N ≤ nI t) = True := by rw [e_le (by omega) (by omega)]; exact eq_true (by omega)
    have he : enc MIL (min4 f) < 2 ^ 31 := by unfold enc; split <;> omega
    simp only [lit, q0, if_true, k1, bd1_s, e_le (show 1000000 < 2 ^ 31 by omega) he]
    show _ = some (encA (min4 f), Tn)
    unfold encA
    by_cases h : min4 f < 1000
    · have e1 : enc MIL (min4 f) = min4 f := if_pos h
      rw [e1, if_neg (by omega), if_pos h]
    · have e1 : enc MIL (min4 f) = MIL := if_neg h
      rw [e1, if_pos (by omega), if_neg h]
  | succ k ih =>
    intro t n Tn f hk hn hf h1
    obtain ⟨n, rfl, hn⟩ := gt_s hn
    have k1 := c_least hf (by omega) h1
    obtain ⟨Ta, e, -, b⟩ := c_64 (lX3_toBeNeverAlike_36 n) x1 (N := N) (fr := fr) hf (show t < 20 by omega) rfl 4 0 fu Tn (by omega) (fu_gt (by omega)) (fun i _ hi => h1 i hi)
    obtain ⟨Tb, e2⟩ := ih (t + 1) n Ta _ (by omega) (by omega) (fN_s (al := alN x1 false) (fr := fr) hf (by omega)) (fun y hy => b y (by omega) hy)
    refine ⟨Tb, ?_⟩
    rw [sX3_toBeNeverAlike_36]
    unfold fX3_toBeNeverAlike_36
    have q0 : (nI N ≤ nI t) = False := by rw [e_le (by omega) (by omega)]; exact eq_false (by omega)
    simp only [lit, q0, if_false, k1, bd1_s, e_add, e_le (show fr < 2 ^ 31 by omega) (show t < 2 ^ 31 by omega)]
    by_cases hft : fr ≤ t
    · rw [if_pos hft] at e ⊢
      exact e.trans e2
    · rw [if_neg hft] at e ⊢
      exact e.trans e2
theorem c_3 (x1 N fr : Int32) : ∀ (k i n : Nat) (Tn : Gp), i + k = 4 → k < n → (∀ j, j < i → Tn 1 j = nI (enc MIL (f0N j))) → ∃ Ta, lX3_toBeNeverAlike_3 n Tn x1 N fr (nI i) = lX3_toBeNeverAlike_36 fu Ta x1 N fr (nI 0) ∧ sN MIL f0N Ta 1 := by
  intro k
  induction k with
  | zero =>
    intro i n Tn hk hn h
    obtain ⟨n, rfl, -⟩ := gt_s hn
    refine ⟨Tn, ?_, fun j hj => h j (by omega)⟩
    rw [sX3_toBeNeverAlike_3]
    unfold fX3_toBeNeverAlike_3
    simp only [lit]
    exact if_pos (by rw [e_le (by omega) (by omega)]; omega)
  | succ k ih =>
    intro i n Tn hk hn h
    obtain ⟨n, rfl, hn⟩ := gt_s hn
    obtain ⟨Ta, e, s⟩ := ih (i + 1) n (u2 Tn 1 i (nI (enc MIL (f0N i)))) (by omega) (by omega) (fun j hj => by
      rw [u2_ap]
      by_cases g : j = i
      · rw [if_pos ⟨rfl, g⟩, g]
      · rw [if_neg (by omega)]; exact h j (by omega))
    refine ⟨Ta, ?_, s⟩
    rw [sX3_toBeNeverAlike_3]
    unfold fX3_toBeNeverAlike_3
    have q0 : (nI 4 ≤ nI i) = False := by rw [e_le (by omega) (by omega)]; exact eq_false (by omega)
    have q1 : (ix (nI i) 4) = True := by rw [e_ix (by omega)]; exact eq_true (by omega)
    simp only [lit, q0, q1, if_true, if_false, e_add, e_eq (show i < 2 ^ 31 by omega) (show 0 < 2 ^ 31 by omega)]
    rw [cl_nI (show i < 2 ^ 31 by omega), ← e]
    by_cases g : i = 0
    · rw [if_pos g, g]; rfl
    · rw [if_neg g]
      have : enc MIL (f0N i) = 1000000 := by unfold f0N; rw [if_neg g]; rfl
      rw [this]
theorem r_news (Te : Gp) (x1 x2 x3 : Int32) (fl : Bool) : ∃ r Ta Tb, fX10_news Te Tn x1 x2 x3 (bI fl) = some (r, Ta) ∧ fX11_news Tm x1 x2 x3 (bI fl) = some (r, Tb) ∧ FO 0 Tm Tb := by
  cases hx2 : rg x2 1 12
  · refine ⟨-nI 3, Tn, Tm, ?_, ?_, FO_r _ _⟩
    · unfold fX10_news
      simp only [lit]
      rw [w_rg x2 (by omega) (by omega), hx2]
      simp only [bd1_s, bI_0, if_true]
    · unfold fX11_news
      simp only [lit]
      rw [n_rg x2 (a := 1) (b := 12) (by decide) (by decide), hx2]
      simp only [bd1_s, bI_0, if_true]
  cases hx3 : ok x3 10
  · refine ⟨-nI 3, Tn, Tm, ?_, ?_, FO_r _ _⟩
    · unfold fX10_news
      simp only [lit]
      rw [w_rg x2 (by omega) (by omega), hx2, w_10, hx3]
      simp only [bd1_s, bI_0, Bool.true_eq_false, if_false, if_true]
    · unfold fX11_news
      simp only [lit]
      rw [n_rg x2 (a := 1) (b := 12) (by decide) (by decide), hx2, n_10, hx3]
      simp only [bd1_s, bI_0, Bool.true_eq_false, if_false, if_true]
  obtain ⟨N, hN1, hN, rfl⟩ := rg_ex hx2 (by omega)
  obtain ⟨fr, hfr, rfl⟩ := ok_ex hx3 (by omega)
  obtain ⟨Tb, e2, f2⟩ := m_news (Tm := Tm) x1 (fr := fr) fl hN hN1 (by omega)
  cases fl
  · obtain ⟨T1, e1, s1⟩ := c_3 x1 (nI N) (nI fr) 4 0 fu Tn (by omega) (fu_gt (by omega)) (fun j hj => by omega)
    obtain ⟨Ta, e3⟩ := c_36 x1 hN (show fr ≤ 9 by omega) N 0 fu T1 f0N (by omega) (fu_gt (by omega)) f0_fN s1
    refine ⟨_, Ta, Tb, ?_, e2, f2⟩
    unfold fX10_news fX3_toBeNeverAlike
    simp only [lit]
    rw [w_rg _ (by omega) (by omega), hx2, w_10, hx3]
    simp only [bd1_s, bI_0, Bool.true_eq_false, if_false, if_true]
    rw [e1, e3, bd2_s]
  · have e1 := c_alike (Tn := Tn) x1 hN (show fr ≤ 9 by omega) N 0 fu 0 0 f0N (by omega) (fu_gt (by omega)) (by omega) (by omega) (fun x => rfl)
    refine ⟨_, Tn, Tb, ?_, e2, f2⟩
    unfold fX10_news fX3_toBeAlike
    simp only [lit]
    rw [w_rg _ (by omega) (by omega), hx2, w_10, hx3]
    simp only [bd1_s, bI_0, Bool.true_eq_false, if_false]
    rw [e1, bd1_s]
end NEWS4
