/-! sets of at most six, as numbers below 64 -/
def hb (S i : Nat) : Bool := decide (S / 2 ^ i % 2 = 1)
def rmB (S i : Nat) : Nat := if hb S i = true then S - 2 ^ i else S
def adB (S i : Nat) : Nat := if hb S i = true then S else S + 2 ^ i
def lowB (S : Nat) : Nat := if hb S 0 = true then 0 else if hb S 1 = true then 1 else if hb S 2 = true then 2 else if hb S 3 = true then 3 else if hb S 4 = true then 4 else 5
def cntB (S : Nat) : Nat := (hb S 0).toNat + (hb S 1).toNat + (hb S 2).toNat + (hb S 3).toNat + (hb S 4).toNat + (hb S 5).toNat
theorem b_rm : ∀ (S : Fin 64) (i : Fin 6), nI S.1 &&& ((nI 1 <<< (nI i.1 &&& nI 31)) ^^^ -nI 1) = nI (rmB S.1 i.1) := by decide +kernel
theorem b_ad : ∀ (S : Fin 64) (i : Fin 6), nI S.1 ||| (nI 1 <<< (nI i.1 &&& nI 31)) = nI (adB S.1 i.1) := by decide +kernel
theorem b_has : ∀ (S : Fin 64) (i : Fin 6), (nI S.1 >>> (nI i.1 &&& nI 31)) &&& nI 1 = bI (hb S.1 i.1) := by decide +kernel
theorem b_low : ∀ (S : Fin 64), 0 < S.1 → nI S.1 &&& (nI S.1 - nI 1) = nI (rmB S.1 (lowB S.1)) ∧ ev_bc ((nI S.1 &&& (-(nI S.1))) - nI 1) = nI (lowB S.1) ∧ hb S.1 (lowB S.1) = true := by decide +kernel
theorem b_cnt : ∀ (S : Fin 64), ev_bc (nI S.1) = nI (cntB S.1) := by decide +kernel
theorem b_pow : ∀ (i : Fin 7), nI 1 <<< (nI i.1 &&& nI 31) = nI (2 ^ i.1) := by decide +kernel
theorem b_lt : ∀ (S : Fin 64) (i : Fin 6), rmB S.1 i.1 < 64 ∧ rmB S.1 i.1 ≤ S.1 ∧ adB S.1 i.1 < 64 ∧ S.1 ≤ adB S.1 i.1 := by decide +kernel
theorem b_ltS : ∀ (S : Fin 64) (i : Fin 6), hb S.1 i.1 = true → rmB S.1 i.1 < S.1 := by decide +kernel
theorem b_hr : ∀ (S : Fin 64) (i j : Fin 6), hb (rmB S.1 i.1) j.1 = (hb S.1 j.1 && !decide (i = j)) := by decide +kernel
theorem b_comm : ∀ (S : Fin 64) (i j : Fin 6), rmB (rmB S.1 i.1) j.1 = rmB (rmB S.1 j.1) i.1 := by decide +kernel
theorem b_lowr : ∀ (S : Fin 64) (i : Fin 6), 0 < rmB S.1 i.1 → i.1 ≠ lowB S.1 → lowB (rmB S.1 i.1) = lowB S.1 := by decide +kernel
theorem b_cr : ∀ (S : Fin 64) (i : Fin 6), hb S.1 i.1 = true → cntB (rmB S.1 i.1) + 1 = cntB S.1 := by decide +kernel
theorem b_lowlt : ∀ (S : Fin 64), lowB S.1 < 6 ∧ cntB S.1 ≤ 6 := by decide +kernel
