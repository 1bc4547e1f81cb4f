/-! news: the spec; 1000 is 'not to be had' -/
def min4 (f : Nat → Nat) : Nat := min (min (f 0) (f 1)) (min (f 2) (f 3))
def nSt (al : Nat → Nat → Bool) (fr t : Nat) (f : Nat → Nat) : Nat → Nat := fun x => if al t x = true then min 1000 (min (f x) (if fr ≤ t then min4 f + 1 else 1000)) else 1000
def nS (al : Nat → Nat → Bool) (fr : Nat) : Nat → Nat → (Nat → Nat) → (Nat → Nat)
  | 0, _, f => f
  | k + 1, t, f => nS al fr k (t + 1) (nSt al fr t f)
def enc (B v : Nat) : Nat := if v < 1000 then v else B
def fN (t : Nat) (f : Nat → Nat) : Prop := ∀ x, f x ≤ t ∨ f x = 1000
theorem fN_s {al : Nat → Nat → Bool} {fr t : Nat} {f : Nat → Nat} (h : fN t f) (ht : t < 500) : fN (t + 1) (nSt al fr t f) := by
  intro x
  have h0 := h 0
  have h1 := h 1
  have h2 := h 2
  have h3 := h 3
  have hx := h x
  unfold nSt min4
  split
  · split <;> omega
  · right; rfl
theorem three_ex (y : Int32) : ∃ j, j < 4 ∧ y &&& 3 = nI j := by
  have h1 : (y &&& 3).toBitVec.toNat < 4 := by
    rw [Int32.toBitVec_and, BitVec.toNat_and]
    have := Nat.and_le_right (n := y.toBitVec.toNat) (m := (3 : Int32).toBitVec.toNat)
    have h2 : (3 : Int32).toBitVec.toNat = 3 := by decide
    omega
  have h3 : (y &&& 3).toInt = (y &&& 3).toBitVec.toNat := by
    show (y &&& 3).toBitVec.toInt = _
    exact BitVec.toInt_eq_toNat_of_lt (by omega)
  exact ok_ex (decide_eq_true ⟨by omega, by omega⟩) (by omega)
/-- the class told of day t -/
def cA (x : Int32) (t : Nat) : Nat := ((x >>> ((nI (2 * t)) &&& nI 31)) &&& nI 3).toNatClampNeg
theorem cA_e (x : Int32) (t : Nat) : (x >>> ((nI (2 * t)) &&& nI 31)) &&& nI 3 = nI (cA x t) := by
  obtain ⟨j, hj, e⟩ := three_ex (x >>> ((nI (2 * t)) &&& nI 31))
  have e2 : (x >>> ((nI (2 * t)) &&& nI 31)) &&& nI 3 = nI j := e
  unfold cA
  rw [e2, cl_nI (by omega)]
theorem cA_lt (x : Int32) (t : Nat) : cA x t < 4 := by
  obtain ⟨j, hj, e⟩ := three_ex (x >>> ((nI (2 * t)) &&& nI 31))
  have e2 : (x >>> ((nI (2 * t)) &&& nI 31)) &&& nI 3 = nI j := e
  unfold cA
  rw [e2, cl_nI (by omega)]
  exact hj
/-- may day t be of class x, with the flag -/
def alN (x1 : Int32) (fl : Bool) (t x : Nat) : Bool := decide (cA x1 t = x) == fl
def FAR : Nat := 268435456
section NEWS
variable {Tm Tn : Gp}
def sN (B : Nat) (f : Nat → Nat) (T : Gp) (c : Nat) : Prop := ∀ x, x < 4 → T c x = nI (enc B (f x))
def vN (fr t : Nat) (f : Nat → Nat) (x y : Nat) : Nat := if x = y then f y else if t < fr then 1000 else f y + 1
theorem m_class (x1 : Int32) (t : Nat) : fX11_classAt x1 (nI t) = some (nI (cA x1 t)) := by
  unfold fX11_classAt
  simp only [lit, e_mul]
  rw [cA_e]
theorem c_class (x1 : Int32) (t : Nat) : fX3_classIn x1 (nI t) = some (nI (cA x1 t)) := by
  unfold fX3_classIn
  simp only [lit, e_mul]
  rw [cA_e]
theorem m_90 (rec63 : Gp → Int32 → Int32 → Int32 → Int32 → Int32 → Option (Int32 × Gp)) (rec72 : Gp → Int32 → Int32 → Int32 → Int32 → Int32 → Int32 → Option (Int32 × Gp)) (x1 : Int32) {N fr t x y acc : Nat} {fl : Bool} {f : Nat → Nat} (n : Nat) (hN : N ≤ 12) (hfr : fr ≤ 9) (ht : t < N) (hx : x < 4) (hy : y < 4) (hf : fN t f) (ha : acc ≤ t + 1 ∨ acc = 1000) (h11 : sN FAR f Tm 11) (h12 : Tm 12 x = nI (enc FAR acc)) : lX11_news_90 rec63 rec72 (n + 1) Tm x1 (nI N) (nI fr) (bI fl) (nI t) (nI x) (nI y) = lX11_news_90 rec63 rec72 n (u2 Tm 12 x (nI (enc FAR (if alN x1 fl t x = true then min acc (vN fr t f x y) else acc)))) x1 (nI N) (nI fr) (bI fl) (nI t) (nI x) (nI (y + 1)) := by
  have hF : FAR = 268435456 := rfl
  have hfy := hf y
  have g := h11 y hy
  have hea : enc FAR acc ≤ FAR := by unfold enc; split <;> omega
  have hey : enc FAR (f y) ≤ FAR := by unfold enc; split <;> omega
  -- the last step, for a value v8
  have last : ∀ v8 : Nat, v8 < 2 ^ 30 → enc FAR (min acc (vN fr t f x y)) = min (enc FAR acc) v8 → fX11_news_133 rec63 rec72 (lX11_news_90 rec63 rec72 n) Tm x1 (nI N) (nI fr) (bI fl) (nI t) (nI x) (nI y) (nI v8) = lX11_news_90 rec63 rec72 n (u2 Tm 12 x (nI (enc FAR (if alN x1 fl t x = true then min acc (vN fr t f x y) else acc)))) x1 (nI N) (nI fr) (bI fl) (nI t) (nI x) (nI (y + 1)) := by
    intro v8 h8 e8
    have hc := cA_lt x1 t
    have q1 : (ix (nI x) 4) = True := by rw [e_ix (by omega)]; exact eq_true hx
    have z := cl_nI (show x < 2 ^ 31 by omega)
    have b0 : ∀ b : Bool, (nI 0 = bI b) = (b = false) := fun b => by cases b <;> simp [bI] <;> decide
    have b1 : ∀ b : Bool, (nI 1 = bI b) = (b = true) := fun b => by cases b <;> simp [bI] <;> decide
    have h10 : (nI 1 = nI 0) = False := by rw [e_eq (by omega) (by omega)]; exact eq_false (by omega)
    unfold fX11_news_133 fX11_news_151 fX11_news_161 fX11_news_191
    simp only [lit, m_class, bd1_s, q1, z, h12, b0, b1, h10, e_add, if_true, if_false, e_eq (show cA x1 t < 2 ^ 31 by omega) (show x < 2 ^ 31 by omega), e_le (show enc FAR acc < 2 ^ 31 by omega) (show v8 < 2 ^ 31 by omega)]
    unfold alN
    by_cases hcx : cA x1 t = x
    · cases fl
      · simp [hcx]
      · simp only [hcx, if_true, decide_true, BEq.rfl]
        rw [e8]
        by_cases hle : enc FAR acc ≤ v8
        · rw [if_pos hle, Nat.min_eq_left hle]
        · rw [if_neg hle, Nat.min_eq_right (by omega)]
    · cases fl
      · simp only [hcx, if_true, if_false, decide_false, BEq.rfl]
        rw [e8]
        by_cases hle : enc FAR acc ≤ v8
        · rw [if_pos hle, Nat.min_eq_left hle]
        · rw [if_neg hle, Nat.min_eq_right (by omega)]
      · simp [hcx]
  rw [sX11_news_90]
  unfold fX11_news_90
  have q0 : (nI 4 ≤ nI y) = False := by rw [e_le (by omega) (by omega)]; exact eq_false (by omega)
  have q1 : (ix (nI y) 4) = True := by rw [e_ix (by omega)]; exact eq_true hy
  have z := cl_nI (show y < 2 ^ 31 by omega)
  simp only [lit, q0, q1, z, g, e_add, if_true, if_false, e_eq (show x < 2 ^ 31 by omega) (show y < 2 ^ 31 by omega), e_lt (show t < 2 ^ 31 by omega) (show fr < 2 ^ 31 by omega)]
  by_cases hxy : x = y
  · rw [if_pos hxy]
    exact last _ (by omega) (by unfold vN; rw [if_pos hxy]; unfold enc; split <;> split <;> split <;> omega)
  · rw [if_neg hxy]
    by_cases htf : t < fr
    · rw [if_pos htf]
      exact last 268435456 (by omega) (by unfold vN; rw [if_neg hxy, if_pos htf]; unfold enc; split <;> split <;> omega)
    · rw [if_neg htf]
      exact last _ (by omega) (by unfold vN; rw [if_neg hxy, if_neg htf]; unfold enc; split <;> split <;> split <;> omega)
end NEWS
