section FOURS3
variable {Tg Tm : Gp}
theorem c_set (h : LR Tg Tm) {N S : Nat} (hN : N ≤ 6) (h0 : 0 < S) (hS : S < 2 ^ N) (hS6 : S < 64) (hw : ∀ i j, i < 6 → j < 6 → w4 Tg i j ≤ 397) (hT : ∀ S', S' < S → Tg 2 S' = nI (pT (w4 Tg) 64 S')) : fX2_greatestOfSet Tg (nI S) (nI N) = some (nI (pT (w4 Tg) 64 S)) := by
  have hl := low_lt hS6
  have bl := low_hb hS6 h0
  have sl := rm_ltS hS6 hl bl
  have b := b_low ⟨S, hS6⟩ h0
  simp only at b
  have hlR : hb (rmB S (lowB S)) (lowB S) = false := by rw [hb_rm hS6 hl hl]; simp
  have hR : rmB S (lowB S) < 64 := by omega
  have tb : ∀ S, S < 64 → pT (w4 Tg) 64 S ≤ 30000 := fun S hS => by
    have := pT_le hw 64 S hS
    omega
  have t1 := tb _ hR
  have k := c_27 h hN hR hl hlR (fun S' h' => hT S' (by omega)) tb N 0 fu (pT (w4 Tg) 64 (rmB S (lowB S))) (by omega) (fu_gt (by omega)) (by omega)
  rw [fo_mx6 hN (fun j hj => by rw [hb_hi (show rmB S (lowB S) < 2 ^ N by omega) hj, if_neg (by simp)])] at k
  have e := (pT_low (w4 Tg)).2 S h0 hS6
  simp only at e
  unfold fX2_greatestOfSet
  have ck := c_known Tg hR
  simp only [lit, b.1, b.2.1, ck, bd1_s, hT _ sl]
  rw [k, e]
end FOURS3
