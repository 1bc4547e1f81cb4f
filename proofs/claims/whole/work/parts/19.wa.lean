/-! plans: the greatest worth from a place on with so much bread wanted; what none has is 0, else one more -/
def pI (x : Nat) : Int32 := if x = 0 then -nI 1 else nI (x - 1)
theorem pI_0 : pI 0 = -nI 1 := rfl
theorem pI_s (w : Nat) : pI (w + 1) = nI w := rfl
theorem pI_pos {x : Nat} (h : 0 < x) : pI x = nI (x - 1) := by unfold pI; rw [if_neg (by omega)]
theorem pI_lt {x y : Nat} (hx : x < 2 ^ 30) (hy : y < 2 ^ 30) : (pI x < pI y) = (x < y) := by
  by_cases h1 : x = 0
  · subst h1
    by_cases h2 : y = 0
    · subst h2
      rw [pI_0]
      apply propext
      rw [Int32.lt_iff_toInt_lt]
      constructor <;> intro h <;> omega
    · rw [pI_0, pI_pos (by omega), e_mlt (by omega)]
      exact propext ⟨fun _ => by omega, fun _ => trivial⟩
  · rw [pI_pos (by omega)]
    by_cases h2 : y = 0
    · subst h2
      rw [pI_0, e_ltm (by omega)]
      exact propext ⟨fun h => h.elim, fun h => by omega⟩
    · rw [pI_pos (by omega), e_lt (by omega) (by omega)]
      exact propext ⟨fun _ => by omega, fun _ => by omega⟩
theorem pI_eq {x y : Nat} (hx : x < 2 ^ 30) (hy : y < 2 ^ 30) : (pI x = pI y) = (x = y) := by
  apply propext
  constructor
  · intro h
    have a := pI_lt hx hy
    have b := pI_lt hy hx
    rw [h] at a b
    have c : ∀ z : Int32, (z < z) = False := fun z => by
      apply eq_false
      rw [Int32.lt_iff_toInt_lt]
      omega
    rw [c] at a b
    have a2 : ¬ x < y := by rw [← a]; simp
    have b2 : ¬ y < x := by rw [← b]; simp
    omega
  · intro h; rw [h]
theorem pI_le {x y : Nat} (hx : x < 2 ^ 30) (hy : y < 2 ^ 30) : (pI x ≤ pI y) = (x ≤ y) := by
  have a := pI_lt hy hx
  apply propext
  rw [Int32.le_iff_toInt_le]
  have b : (pI y < pI x) ↔ (y < x) := by rw [a]
  rw [Int32.lt_iff_toInt_lt] at b
  constructor <;> intro h <;> omega
theorem pI_max {x y : Nat} (hx : x < 2 ^ 30) (hy : y < 2 ^ 30) : imx (pI x) (pI y) = pI (max x y) := by
  unfold imx
  by_cases h : x < y
  · rw [if_pos (by rw [pI_lt hx hy]; exact h), Nat.max_eq_right (by omega)]
  · rw [if_neg (by rw [pI_lt hx hy]; exact h), Nat.max_eq_left (by omega)]
theorem pI_m1 {x : Nat} (hx : x < 2 ^ 30) : (pI x = -nI 1) = (x = 0) := by
  rw [← pI_0, pI_eq hx (by omega)]
theorem e_sbI {a b : Nat} (ha : a < 2 ^ 30) (hb : b < 2 ^ 30) : (nI a - nI b).toInt = (a : Int) - b := by
  rw [Int32.toInt_sub, nI_toInt (by omega), nI_toInt (by omega)]
  rw [Int.bmod_def]
  split <;> omega
theorem e_sbm {a b : Nat} (ha : a < 2 ^ 30) (hb : b < 2 ^ 30) : imx (nI a - nI b) (nI 0) = nI (a - b) := by
  by_cases h : b ≤ a
  · rw [e_sub h, e_imx (by omega) (by omega), Nat.max_eq_left (by omega)]
  · unfold imx
    have := e_sbI ha hb
    rw [if_pos (by rw [Int32.lt_iff_toInt_lt, nI_toInt (by omega)]; omega), Nat.sub_eq_zero_of_le (by omega)]
theorem e_sb0 {a b : Nat} (ha : a < 2 ^ 30) (hb : b < 2 ^ 30) : (nI a - nI b ≤ nI 0) = (a ≤ b) := by
  have := e_sbI ha hb
  apply propext
  rw [Int32.le_iff_toInt_le, nI_toInt (by omega)]
  constructor <;> intro h <;> omega
theorem fo_or (g : Nat → Nat) : ∀ k x a, fo g k x a = a ∨ ∃ y, x ≤ y ∧ y < x + k ∧ fo g k x a = g y := by
  intro k
  induction k with
  | zero => intro x a; exact Or.inl rfl
  | succ k ih =>
    intro x a
    have mo : ∀ a b : Nat, max a b = a ∨ max a b = b := fun a b => by omega
    rcases ih (x + 1) (max a (g x)) with h | ⟨y, h1, h2, h3⟩
    · rcases mo a (g x) with e | e
      · left; exact h.trans e
      · right; exact ⟨x, by omega, by omega, h.trans e⟩
    · right; exact ⟨y, by omega, by omega, h3⟩
theorem fo_ge (g : Nat → Nat) (k x a : Nat) {y : Nat} (h1 : x ≤ y) (h2 : y < x + k) : g y ≤ fo g k x a := ((fo_iff g _ k x a).mp (Nat.le_refl _)).2 y h1 h2
theorem fo_c {f g : Nat → Nat} : ∀ k x a, (∀ y, x ≤ y → y < x + k → f y = g y) → fo f k x a = fo g k x a := by
  intro k
  induction k with
  | zero => intro x a _; rfl
  | succ k ih =>
    intro x a h
    show fo f k (x + 1) (max a (f x)) = fo g k (x + 1) (max a (g x))
    rw [h x (by omega) (by omega)]
    exact ih _ _ (fun y h1 h2 => h y (by omega) (by omega))
section PLANS
variable {τ : TD} {o : Nat}
def sS (τ : TD) : Nat := tN τ * tH τ
def al (τ : TD) (o s i : Nat) : Bool := may τ 0 (s / tH τ) (s % tH τ) (i / 6) && may τ 1 (s / tH τ) (s % tH τ) (i % 6) && kt τ o (s / tH τ) (i / 6) (i % 6)
def mk (τ : TD) (s i : Nat) : Nat := bm τ 0 (s / tH τ) (i / 6) + bm τ 1 (s / tH τ) (i % 6)
def ww (τ : TD) (i : Nat) : Nat := wo τ (i / 6) + wo τ (i % 6)
def up (b w : Nat) : Nat := if b = 0 then 0 else b + w
def gP (τ : TD) (o s : Nat) (B : Nat → Nat) (r i : Nat) : Nat := if al τ o s i = true then up (B (r - mk τ s i)) (ww τ i) else 0
def PV (τ : TD) (o : Nat) : Nat → Nat → Nat
  | 0, r => if r = 0 then 1 else 0
  | k + 1, r => fo (gP τ o (sS τ - (k + 1)) (PV τ o k) r) 36 0 0
theorem up_mono {b c w : Nat} (h : b ≤ c) : up b w ≤ up c w := by unfold up; split <;> split <;> omega
theorem PV_anti : ∀ k r r', r ≤ r' → PV τ o k r' ≤ PV τ o k r := by
  intro k
  induction k with
  | zero =>
    intro r r' h
    show (if r' = 0 then 1 else 0) ≤ if r = 0 then 1 else 0
    by_cases c : r' = 0
    · rw [if_pos c, if_pos (by omega)]; exact Nat.le_refl _
    · rw [if_neg c]; exact Nat.zero_le _
  | succ k ih =>
    intro r r' h
    show fo _ 36 0 0 ≤ fo _ 36 0 0
    rw [fo_iff]
    refine ⟨Nat.zero_le _, fun y h1 h2 => Nat.le_trans ?_ (fo_ge _ 36 0 0 h1 h2)⟩
    unfold gP
    by_cases c : al τ o (sS τ - (k + 1)) y = true
    · rw [if_pos c, if_pos c]
      exact up_mono (ih _ _ (by omega))
    · rw [if_neg c, if_neg c]; exact Nat.le_refl _
theorem ww_le (hw : TW τ) (i : Nat) : ww τ i ≤ 40 := by
  have h := hw.2.2.2.2.2.2.2.2.2.2.2.1
  have a := h (i / 6)
  have b := h (i % 6)
  unfold ww
  omega
theorem mk_le (hw : TW τ) (s i : Nat) : mk τ s i ≤ 40 := by
  have h := hw.2.2.2.2.2.2.2.2.2.1
  have a := h 0 (i / 6)
  have b := h 1 (i % 6)
  unfold mk bm
  split <;> omega
theorem PV_le (hw : TW τ) : ∀ k r, PV τ o k r ≤ 40 * k + 1 := by
  intro k
  induction k with
  | zero =>
    intro r
    show (if r = 0 then 1 else 0) ≤ _
    split <;> omega
  | succ k ih =>
    intro r
    show fo _ 36 0 0 ≤ _
    rw [fo_iff]
    refine ⟨Nat.zero_le _, fun y h1 h2 => ?_⟩
    unfold gP up
    have a := ih (r - mk τ (sS τ - (k + 1)) y)
    have b := ww_le hw y
    split
    · split <;> omega
    · omega
/-- the most worth with just so much bread, of the first pairs of works -/
def Wf (τ : TD) (o s : Nat) : Nat → Nat → Nat
  | 0, _ => 0
  | i + 1, m => max (Wf τ o s i m) (if al τ o s i = true ∧ mk τ s i = m then ww τ i + 1 else 0)
theorem Wf_le (hw : TW τ) (s : Nat) : ∀ i m, Wf τ o s i m ≤ 41 := by
  intro i
  induction i with
  | zero => intro m; exact Nat.zero_le _
  | succ i ih =>
    intro m
    show max _ _ ≤ _
    have a := ih m
    have b := ww_le hw i
    split <;> omega
theorem Wf_ge (s : Nat) : ∀ i m y, y < i → al τ o s y = true → mk τ s y = m → ww τ y + 1 ≤ Wf τ o s i m := by
  intro i
  induction i with
  | zero => intro m y h; omega
  | succ i ih =>
    intro m y h a b
    show _ ≤ max _ _
    by_cases c : y = i
    · subst c
      rw [if_pos ⟨a, b⟩]
      omega
    · have := ih m y (by omega) a b
      omega
theorem Wf_or (s : Nat) : ∀ i m, Wf τ o s i m = 0 ∨ ∃ y, y < i ∧ al τ o s y = true ∧ mk τ s y = m ∧ Wf τ o s i m = ww τ y + 1 := by
  intro i
  induction i with
  | zero => intro m; exact Or.inl rfl
  | succ i ih =>
    intro m
    have mo : ∀ a b : Nat, max a b = a ∨ max a b = b := fun a b => by omega
    show max _ _ = 0 ∨ ∃ y, y < i + 1 ∧ _ ∧ _ ∧ max _ _ = _
    rcases mo (Wf τ o s i m) (if al τ o s i = true ∧ mk τ s i = m then ww τ i + 1 else 0) with e | e
    · rw [e]
      rcases ih m with h | ⟨y, h1, h2, h3, h4⟩
      · exact Or.inl h
      · exact Or.inr ⟨y, by omega, h2, h3, h4⟩
    · rw [e]
      by_cases c : al τ o s i = true ∧ mk τ s i = m
      · exact Or.inr ⟨i, by omega, c.1, c.2, if_pos c⟩
      · exact Or.inl (if_neg c)
/-- what one bread offers -/
def Qf (W B : Nat → Nat) (m r : Nat) : Nat := if W m = 0 then 0 else up (B (r - m)) (W m - 1)
def RM (W B : Nat → Nat) : Nat → Nat → Nat
  | 0, _ => 0
  | c + 1, r => max (RM W B c r) (Qf W B (40 - c) r)
def WM (W : Nat → Nat) : Nat → Nat
  | 0 => 0
  | c + 1 => max (WM W c) (W (40 - c))
theorem RM_dom {W B : Nat → Nat} (hB : ∀ r r', r ≤ r' → B r' ≤ B r) : ∀ c m x r, c ≤ 41 → m + c ≤ 41 → 0 < x → x ≤ WM W c → up (B (r - m)) (x - 1) ≤ RM W B c r := by
  intro c
  induction c with
  | zero => intro m x r h1 h2 h3 h4; exact absurd h4 (by show ¬ x ≤ 0; omega)
  | succ c ih =>
    intro m x r h1 h2 h3 h4
    show _ ≤ max _ _
    have h5 : x ≤ max (WM W c) (W (40 - c)) := h4
    by_cases d : x ≤ WM W c
    · have := ih m x r (by omega) (by omega) h3 d
      omega
    · have d2 : x ≤ W (40 - c) := by omega
      have e : up (B (r - m)) (x - 1) ≤ Qf W B (40 - c) r := by
        unfold Qf
        rw [if_neg (by omega)]
        have := hB (r - (40 - c)) (r - m) (by omega)
        unfold up
        split <;> split <;> omega
      omega
theorem RM_skip {W B : Nat → Nat} (hB : ∀ r r', r ≤ r' → B r' ≤ B r) {c : Nat} (hc : c ≤ 40) (h : W (40 - c) ≤ WM W c) (r : Nat) : RM W B (c + 1) r = RM W B c r := by
  show max _ _ = _
  apply Nat.max_eq_left
  unfold Qf
  by_cases z : W (40 - c) = 0
  · rw [if_pos z]; exact Nat.zero_le _
  · rw [if_neg z]
    exact RM_dom hB c (40 - c) _ r (by omega) (by omega) (by omega) h
theorem RM_iff (W B : Nat → Nat) (r M : Nat) : ∀ c, c ≤ 41 → (RM W B c r ≤ M ↔ ∀ m, 41 ≤ m + c → m ≤ 40 → Qf W B m r ≤ M) := by
  intro c
  induction c with
  | zero => intro _; exact ⟨fun _ m h1 h2 => by omega, fun _ => Nat.zero_le _⟩
  | succ c ih =>
    intro hc
    show max _ _ ≤ M ↔ _
    rw [Nat.max_le, ih (by omega)]
    constructor
    · intro h m h1 h2
      by_cases e : m = 40 - c
      · rw [e]; exact h.2
      · exact h.1 m (by omega) h2
    · intro h
      exact ⟨fun m h1 h2 => h m (by omega) h2, h (40 - c) (by omega) (by omega)⟩
theorem RM_gP (hw : TW τ) (s : Nat) (B : Nat → Nat) (r : Nat) : RM (Wf τ o s 36) B 41 r = fo (gP τ o s B r) 36 0 0 := by
  apply Nat.le_antisymm
  · rw [RM_iff _ _ _ _ 41 (Nat.le_refl _)]
    intro m _ hm
    unfold Qf
    rcases Wf_or (τ := τ) (o := o) s 36 m with h | ⟨y, h1, h2, h3, h4⟩
    · rw [if_pos h]; exact Nat.zero_le _
    · rw [h4, if_neg (by omega)]
      refine Nat.le_trans (Nat.le_of_eq ?_) (fo_ge (gP τ o s B r) 36 0 0 (Nat.zero_le y) (by omega))
      unfold gP
      rw [if_pos h2, h3]
      rfl
  · rw [fo_iff]
    refine ⟨Nat.zero_le _, fun y _ hy => ?_⟩
    unfold gP
    by_cases c : al τ o s y = true
    · rw [if_pos c]
      have a := Wf_ge (τ := τ) (o := o) s 36 _ y (by omega) c rfl
      have b := ((RM_iff (Wf τ o s 36) B r _ 41 (Nat.le_refl _)).mp (Nat.le_refl _)) (mk τ s y) (by omega) (mk_le hw s y)
      refine Nat.le_trans ?_ b
      unfold Qf
      rw [if_neg (by omega)]
      unfold up
      split <;> omega
    · rw [if_neg c]; exact Nat.zero_le _
end PLANS
