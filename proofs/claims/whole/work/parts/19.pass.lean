/-! a day -/
def aF (ν : VV) (i : Nat) (x : Int32) : VV := (ν.1, fun j => if j = i then ν.2.1 j + nI 1 else ν.2.1 j, fun j => if j = i then ν.2.2 j + x else ν.2.2 j)
def aB (ν : VV) (v : Nat) (x : Int32) : VV := (fun j => if j = v then ν.1 j + x else ν.1 j, ν.2)
def sB (ν : VV) (x : Int32) : VV := (fun j => ν.1 j - x, ν.2)
def cF (τ : TD) (δ : DA) (p hr : Nat) (ν : VV) : VV := if breach τ δ p hr = true then (if (!stray τ δ 0 p hr && stray τ δ 1 p hr) = true then aF ν (6 + p) (nI (tF τ)) else if (stray τ δ 0 p hr && !stray τ δ 1 p hr) = true then aF ν p (nI (tF τ)) else aF (aF ν p (nI (tF τ))) (6 + p) (nI (tF τ))) else ν
def bB (τ : TD) (δ : DA) (p hr : Nat) (ν : VV) : VV := aB (aB ν 0 (nI (bm τ 0 p (does τ δ 0 p hr)))) 1 (nI (bm τ 1 p (does τ δ 1 p hr)))
def slotS (τ : TD) (δ : DA) (p hr : Nat) (ν : VV) : VV := bB τ δ p hr (cF τ δ p hr ν)
theorem cF_bB (τ : TD) (δ : DA) (p hr : Nat) (ν : VV) : cF τ δ p hr (bB τ δ p hr ν) = slotS τ δ p hr ν := by
  unfold slotS cF
  cases breach τ δ p hr <;> cases stray τ δ 0 p hr <;> cases stray τ δ 1 p hr <;> rfl
def hF (τ : TD) (δ : DA) (p : Nat) : Nat → Nat → VV → VV
  | 0, _, ν => ν
  | k + 1, hr, ν => hF τ δ p k (hr + 1) (slotS τ δ p hr ν)
def pF (τ : TD) (δ : DA) : Nat → Nat → VV → VV
  | 0, _, ν => ν
  | k + 1, p, ν => pF τ δ k (p + 1) (hF τ δ p (tH τ) 0 ν)
def pR (τ : TD) (δ : DA) : Nat → Nat → VV → VV
  | 0, _, ν => ν
  | k + 1, p, ν => pR τ δ k (p + 1) (sB (hF τ δ p (tH τ) 0 ν) (nI (tE τ)))
theorem i_sa (a x y : Int32) : a - x + y = a + y - x := by
  rw [Int32.sub_eq_add_neg, Int32.sub_eq_add_neg, Int32.add_assoc, Int32.add_comm (-x), ← Int32.add_assoc]
theorem i_ss (a x y : Int32) : a - x - y = a - (x + y) := by
  rw [Int32.sub_eq_add_neg, Int32.sub_eq_add_neg, Int32.sub_eq_add_neg, Int32.neg_add, Int32.add_assoc, Int32.sub_eq_add_neg]
theorem sB_aB (ν : VV) (v : Nat) (x y : Int32) : aB (sB ν x) v y = sB (aB ν v y) x := by
  unfold aB sB
  simp only [Prod.mk.injEq, and_true]
  funext j
  by_cases h : j = v
  · rw [if_pos h, if_pos h, i_sa]
  · rw [if_neg h, if_neg h]
theorem sB_cF (τ : TD) (δ : DA) (p hr : Nat) (ν : VV) (x : Int32) : cF τ δ p hr (sB ν x) = sB (cF τ δ p hr ν) x := by
  unfold cF
  cases breach τ δ p hr <;> cases stray τ δ 0 p hr <;> cases stray τ δ 1 p hr <;> rfl
theorem sB_slot (τ : TD) (δ : DA) (p hr : Nat) (ν : VV) (x : Int32) : slotS τ δ p hr (sB ν x) = sB (slotS τ δ p hr ν) x := by
  unfold slotS bB
  rw [sB_cF, sB_aB, sB_aB]
theorem sB_hF (τ : TD) (δ : DA) (p : Nat) (x : Int32) : ∀ k hr ν, hF τ δ p k hr (sB ν x) = sB (hF τ δ p k hr ν) x := by
  intro k
  induction k with
  | zero => intro hr ν; rfl
  | succ k ih => intro hr ν; show hF τ δ p k (hr + 1) (slotS τ δ p hr (sB ν x)) = _; rw [sB_slot, ih]; rfl
theorem sB_sB (ν : VV) (x y : Int32) : sB (sB ν x) y = sB ν (x + y) := by
  unfold sB
  simp only [Prod.mk.injEq, and_true]
  funext j
  exact i_ss _ _ _
theorem pR_pF (τ : TD) (δ : DA) : ∀ k p ν m, pR τ δ k p (sB ν (nI m)) = sB (pF τ δ k p ν) (nI (m + k * tE τ)) := by
  intro k
  induction k with
  | zero => intro p ν m; rw [Nat.zero_mul]; rfl
  | succ k ih =>
    intro p ν m
    show pR τ δ k (p + 1) (sB (hF τ δ p (tH τ) 0 (sB ν (nI m))) (nI (tE τ))) = _
    rw [sB_hF, sB_sB, e_add, ih]
    show sB (pF τ δ k (p + 1) (hF τ δ p (tH τ) 0 ν)) _ = sB (pF τ δ k (p + 1) (hF τ δ p (tH τ) 0 ν)) _
    congr 2
    rw [Nat.add_mul]
    omega
theorem sB_0 (ν : VV) : sB ν (nI 0) = ν := by
  unfold sB
  have : (fun j => ν.1 j - nI 0) = ν.1 := by
    funext j
    exact Int32.sub_zero _
  rw [this]
def nextD (δ : DA) : DA := (dT δ + 1, dI δ, fun _ => none)
def nextV (τ : TD) (δ : DA) (ν : VV) : VV := sB (pF τ δ (tN τ) 0 ν) (nI (tN τ * tE τ))
theorem pR_next (τ : TD) (δ : DA) (ν : VV) : pR τ δ (tN τ) 0 ν = nextV τ δ ν := by
  have h := pR_pF τ δ (tN τ) 0 ν 0
  rw [sB_0, Nat.zero_add] at h
  exact h
section PASS
variable {Tt Td Tm : Gp} {τ : TD} {δ : DA} {ν : VV}
theorem C0_c {Ta : Gp} (h : C0 Td δ) (h0 : Ta 0 = Td 0) (h4 : Ta 4 = Td 4) : C0 Ta δ := by
  unfold C0 at h ⊢
  rw [h0, h4]
  exact h
theorem C1_aB {v : Nat} {x : Int32} (h : C1 Td ν) : C1 (u2 Td 1 v (Td 1 v + x)) (aB ν v x) := by
  refine ⟨fun j hj => ?_, fun j hj => ?_, fun j hj => ?_⟩
  · rw [u2_ap]
    by_cases e : j = v
    · simp only [e, and_self, if_true, aB]
      rw [← e, h.1 j hj]
    · simp only [e, and_false, if_false, aB]
      exact h.1 j hj
  · rw [u2_ap, if_neg (by omega)]; exact h.2.1 j hj
  · rw [u2_ap, if_neg (by omega)]; exact h.2.2 j hj
theorem C1_aF {i : Nat} {x : Int32} (h : C1 Td ν) : C1 (u2 (u2 Td 2 i (Td 2 i + nI 1)) 3 i (Td 3 i + x)) (aF ν i x) := by
  refine ⟨fun j hj => ?_, fun j hj => ?_, fun j hj => ?_⟩
  · rw [u2_ap, u2_ap, if_neg (by omega), if_neg (by omega)]; exact h.1 j hj
  · rw [u2_ap, if_neg (by omega), u2_ap]
    by_cases e : j = i
    · simp only [e, and_self, if_true, aF]
      rw [← e, h.2.1 j hj]
    · simp only [e, and_false, if_false, aF]
      exact h.2.1 j hj
  · rw [u2_ap]
    by_cases e : j = i
    · simp only [e, and_self, if_true, aF]
      rw [← e, h.2.2 j hj]
    · rw [if_neg (by omega), u2_ap, if_neg (by omega)]
      simp only [e, if_false, aF]
      exact h.2.2 j hj
theorem c_addFault (h : C0 Td δ) (g : C1 Td ν) {v p : Nat} (hv : v < 2) (hp : p < 6) (x : Int32) : ∃ Ta, fX0_addFault Td (nI v) (nI p) x = some Ta ∧ C0 Ta δ ∧ C1 Ta (aF ν (v * 6 + p) x) := by
  refine ⟨u2 (u2 Td 2 (v * 6 + p) (Td 2 (v * 6 + p) + nI 1)) 3 (v * 6 + p) (Td 3 (v * 6 + p) + x), ?_, C0_c h ?_ ?_, C1_aF g⟩
  · unfold fX0_addFault fX10_personIndex
    simp only [lit, bd1_s, e_add, e_mul]
    rw [show (11 : Nat) = 12 - 1 from rfl, within_ok (by omega) (by omega), ok_nI (by omega) (by omega)]
    simp (disch := omega) only [bd1_s, bI_t, e_eq, e_ix, cl_nI]
    rw [if_neg (by omega), if_pos (by omega)]
    simp only [show v * 6 + p < 12 by omega, if_true]
  · rw [u2_c (by omega), u2_c (by omega)]
  · rw [u2_c (by omega), u2_c (by omega)]
theorem c_blame (ht : CT Tt τ) (h : C0 Td δ) (g : C1 Td ν) {p hr : Nat} (hp : p < tN τ) (hh : hr < 4) (hb : breach τ δ p hr = true) : ∃ Ta, fX0_blame Td Tt (nI p) (nI hr) = some Ta ∧ C0 Ta δ ∧ C1 Ta (cF τ δ p hr ν) := by
  have hn := ht.1.1
  have k0 := c_isToldOtherwise ht h (show 0 < 2 by omega) (show p < 6 by omega) hh
  have k1 := c_isToldOtherwise ht h (show 1 < 2 by omega) (show p < 6 by omega) hh
  have hf : Tt 0 3 = nI (tF τ) := ht.2.2.2.2.1
  unfold fX0_blame fX0_blame_30 fX0_blame_40 fX0_blame_50 cF
  simp only [lit, k0, k1, bd1_s, bI_0, hb, hf, if_true]
  obtain ⟨T0, e0, a0, b0⟩ := c_addFault h g (show 0 < 2 by omega) (show p < 6 by omega) (nI (tF τ))
  obtain ⟨T1, e1, a1, b1⟩ := c_addFault h g (show 1 < 2 by omega) (show p < 6 by omega) (nI (tF τ))
  obtain ⟨T2, e2, a2, b2⟩ := c_addFault a0 b0 (show 1 < 2 by omega) (show p < 6 by omega) (nI (tF τ))
  rw [show 0 * 6 + p = p by omega] at b0 b2
  rw [show 1 * 6 + p = 6 + p by omega] at b1 b2
  cases stray τ δ 0 p hr <;> cases stray τ δ 1 p hr
  · exact ⟨T2, by simp [e0, e2, bd1_s], a2, b2⟩
  · exact ⟨T1, by simp [e1, bd1_s], a1, b1⟩
  · exact ⟨T0, by simp [e0, bd1_s], a0, b0⟩
  · exact ⟨T2, by simp [e0, e2, bd1_s], a2, b2⟩
theorem c_makeBread (ht : CT Tt τ) (h : C0 Td δ) (g : C1 Td ν) {p hr : Nat} (hp : p < tN τ) (hh : hr < 4) : ∃ Ta, fX0_makeBread Td Tt (nI p) (nI hr) = some Ta ∧ C0 Ta δ ∧ C1 Ta (bB τ δ p hr ν) := by
  have hs : ∀ (n : Nat) (Td : Gp) (ν : VV) (v : Nat), v < 2 → C0 Td δ → C1 Td ν → ∃ Ta, lX0_makeBread_3 Tt (n + 1) Td (nI p) (nI hr) (nI v) = lX0_makeBread_3 Tt n Ta (nI p) (nI hr) (nI (v + 1)) ∧ C0 Ta δ ∧ C1 Ta (aB ν v (nI (bm τ v p (does τ δ v p hr)))) := by
    intro n Td ν v hv h g
    have k1 := c_workOf ht h hv hp hh
    have k2 := c_breadMade ht hv hp (does_le ht.1 h.1 v p hr) (does_cn ht.1 v p hr)
    refine ⟨u2 Td 1 v (Td 1 v + nI (bm τ v p (does τ δ v p hr))), ?_, C0_c h ?_ ?_, C1_aB g⟩
    · rw [sX0_makeBread_3]
      unfold fX0_makeBread_3
      simp only [lit, k1, k2, bd1_s, e_add]
      simp (disch := omega) only [e_le, e_ix, cl_nI]
      rw [if_neg (by omega)]
      simp only [hv, if_true]
    · rw [u2_c (by omega)]
    · rw [u2_c (by omega)]
  unfold fX0_makeBread
  obtain ⟨n, hn⟩ := fu_ex
  rw [hn]
  obtain ⟨T1, e1, a1, b1⟩ := hs (n + 99989) Td ν 0 (by omega) h g
  obtain ⟨T2, e2, a2, b2⟩ := hs (n + 99988) T1 _ 1 (by omega) a1 b1
  refine ⟨T2, ?_, a2, b2⟩
  rw [show n + 99990 = n + 99989 + 1 from rfl, lit, e1, show n + 99989 = n + 99988 + 1 from rfl, e2, show n + 99988 = n + 99987 + 1 from rfl, sX0_makeBread_3]
  unfold fX0_makeBread_3
  simp only [lit]
  exact if_pos (by rw [e_le (by omega) (by omega)]; omega)
theorem c_hours (ht : CT Tt τ) (rec2 : Gp → Int32 → Option Gp) {p : Nat} (hp : p < tN τ) : ∀ (k hr n : Nat) (Td : Gp) (ν : VV), hr + k = tH τ → k < n → C0 Td δ → C1 Td ν → ∃ Ta, lX0_passOne_12 Tt rec2 n Td (nI p) (nI hr) = rec2 Ta (nI (p + 1)) ∧ C0 Ta δ ∧ C1 Ta (hF τ δ p k hr ν) := by
  have hN := ht.1.1
  have hH := ht.1.2.1
  have h1 : Tt 0 1 = nI (tH τ) := ht.2.2.1
  intro k
  induction k with
  | zero =>
    intro hr n Td ν hk hn h g
    obtain ⟨m, rfl, -⟩ := gt_s hn
    refine ⟨Td, ?_, h, g⟩
    rw [sX0_passOne_12]
    unfold fX0_passOne_12
    rw [h1, if_pos (by rw [e_le (by omega) (by omega)]; omega), lit, e_add]
  | succ k ih =>
    intro hr n Td ν hk hn h g
    obtain ⟨m, rfl, hm⟩ := gt_s hn
    obtain ⟨T1, e1, a1, b1⟩ := c_makeBread ht h g hp (show hr < 4 by omega)
    have k1 := c_isBreach ht a1 hp (show hr < 4 by omega)
    rw [sX0_passOne_12]
    unfold fX0_passOne_12
    rw [h1, if_neg (by rw [e_le (by omega) (by omega)]; omega), e1]
    simp only [lit, bd1_s, k1, bI_0, e_add]
    have e := cF_bB τ δ p hr ν
    cases hb : breach τ δ p hr
    · simp only [if_true]
      obtain ⟨T2, e2, a2, b2⟩ := ih (hr + 1) m T1 (slotS τ δ p hr ν) (by omega) (by omega) a1 (by rw [← e]; unfold cF; rw [hb]; exact b1)
      exact ⟨T2, e2, a2, b2⟩
    · rw [if_neg (by simp)]
      obtain ⟨T3, e3, a3, b3⟩ := c_blame ht a1 b1 hp (show hr < 4 by omega) hb
      rw [e3, bd1_s]
      obtain ⟨T2, e2, a2, b2⟩ := ih (hr + 1) m T3 (slotS τ δ p hr ν) (by omega) (by omega) a3 (by rw [← e]; exact b3)
      exact ⟨T2, e2, a2, b2⟩
theorem ev_fill_ap (f : Nat → Int32) (n : Nat) (v : Int32) {i : Nat} (h : i < n) : ev_fill f n v i = v := by
  unfold ev_fill
  simp [h]
theorem DW_next (h : DW δ) (hd : dT δ + 1 < 2 ^ 20) : DW (nextD δ) := ⟨hd, fun i w e => by cases e⟩
theorem c_eat (ht : CT Tt τ) (h : C0 Td δ) (g : C1 Td ν) (hd : dT δ + 1 < 2 ^ 20) : ∃ Ta, lX0_passOne_58 Tt fu Td (nI 0) = some Ta ∧ C0 Ta (nextD δ) ∧ C1 Ta (sB ν (nI (tN τ * tE τ))) := by
  have q0 : Tt 0 0 = nI (tN τ) := ht.2.1
  have q2 : Tt 0 2 = nI (tE τ) := ht.2.2.2.1
  obtain ⟨n, hn⟩ := fu_ex
  rw [hn]
  have hE : nI (tE τ * tN τ) = nI (tN τ * tE τ) := by rw [Nat.mul_comm]
  refine ⟨u2 (uc (u2 (u2 Td 1 0 (Td 1 0 - nI (tN τ * tE τ))) 1 1 (Td 1 1 - nI (tN τ * tE τ))) 4 (ev_fill (Td 4) 48 (-nI 1))) 0 0 (nI (dT δ + 1)), ?_, ⟨DW_next h.1 hd, ?_, fun i hi => ?_, fun i hi => ?_⟩, fun v hv => ?_, fun i hi => ?_, fun i hi => ?_⟩
  · rw [show n + 99990 = n + 99987 + 1 + 1 + 1 from rfl, sX0_passOne_58]
    unfold fX0_passOne_58
    rw [sX0_passOne_58]
    unfold fX0_passOne_58
    rw [sX0_passOne_58]
    unfold fX0_passOne_58
    simp only [lit, e_add, q0, q2, e_mul, hE]
    simp (disch := omega) only [e_le, e_ix, cl_nI]
    simp only [Nat.reduceAdd, Nat.reduceLeDiff, Nat.reduceLT, if_true, if_false]
    have w1 : (u2 (u2 Td 1 0 (Td 1 0 - nI (tN τ * tE τ))) 1 1 (u2 Td 1 0 (Td 1 0 - nI (tN τ * tE τ)) 1 1 - nI (tN τ * tE τ))) = u2 (u2 Td 1 0 (Td 1 0 - nI (tN τ * tE τ))) 1 1 (Td 1 1 - nI (tN τ * tE τ)) := by
      congr 2
    have w2 : u2 (u2 Td 1 0 (Td 1 0 - nI (tN τ * tE τ))) 1 1 (Td 1 1 - nI (tN τ * tE τ)) 4 = Td 4 := by rw [u2_c (by omega), u2_c (by omega)]
    have w3 : u2 (u2 Td 1 0 (Td 1 0 - nI (tN τ * tE τ))) 1 1 (Td 1 1 - nI (tN τ * tE τ)) 0 0 = nI (dT δ) := by rw [u2_c (by omega), u2_c (by omega)]; exact h.2.1
    rw [w1, w2, w3, e_add]
  · rw [u2_same]; rfl
  · rw [u2_ap, if_neg (by omega), uc_ap, if_neg (by omega), u2_ap, if_neg (by omega), u2_ap, if_neg (by omega)]; exact h.2.2.1 i hi
  · rw [u2_ap, if_neg (by omega), uc_ap, if_pos rfl, ev_fill_ap _ _ _ hi]; rfl
  · rw [u2_ap, if_neg (by omega), uc_ap, if_neg (by omega), u2_ap, u2_ap]
    have hv2 : v = 0 ∨ v = 1 := by omega
    rcases hv2 with rfl | rfl
    · rw [if_neg (by omega), if_pos (by omega), g.1 0 (by omega)]; rfl
    · rw [if_pos (by omega), g.1 1 (by omega)]; rfl
  · rw [u2_ap, if_neg (by omega), uc_ap, if_neg (by omega), u2_ap, if_neg (by omega), u2_ap, if_neg (by omega)]; exact g.2.1 i hi
  · rw [u2_ap, if_neg (by omega), uc_ap, if_neg (by omega), u2_ap, if_neg (by omega), u2_ap, if_neg (by omega)]; exact g.2.2 i hi
theorem c_pairs (ht : CT Tt τ) (hd : dT δ + 1 < 2 ^ 20) : ∀ (k p n : Nat) (Td : Gp) (ν : VV), p + k = tN τ → k < n → C0 Td δ → C1 Td ν → ∃ Ta, lX0_passOne_2 Tt n Td (nI p) = some Ta ∧ C0 Ta (nextD δ) ∧ C1 Ta (sB (pF τ δ k p ν) (nI (tN τ * tE τ))) := by
  have hN := ht.1.1
  have hH := ht.1.2.1
  have h1 : Tt 0 0 = nI (tN τ) := ht.2.1
  intro k
  induction k with
  | zero =>
    intro p n Td ν hk hn h g
    obtain ⟨m, rfl, -⟩ := gt_s hn
    rw [sX0_passOne_2]
    unfold fX0_passOne_2
    rw [h1, if_pos (by rw [e_le (by omega) (by omega)]; omega)]
    simp only [lit]
    exact c_eat ht h g hd
  | succ k ih =>
    intro p n Td ν hk hn h g
    obtain ⟨m, rfl, hm⟩ := gt_s hn
    obtain ⟨T1, e1, a1, b1⟩ := c_hours ht (lX0_passOne_2 Tt m) (show p < tN τ by omega) (tH τ) 0 fu Td ν (by omega) (fu_gt (by omega)) h g
    rw [sX0_passOne_2]
    unfold fX0_passOne_2
    rw [h1, if_neg (by rw [e_le (by omega) (by omega)]; omega)]
    simp only [lit]
    rw [e1]
    exact ih (p + 1) m T1 _ (by omega) (by omega) a1 b1
theorem c_passOne (ht : CT Tt τ) (h : C0 Td δ) (g : C1 Td ν) (hd : dT δ + 1 < 2 ^ 20) : ∃ Ta, fX0_passOne Td Tt = some Ta ∧ C0 Ta (nextD δ) ∧ C1 Ta (nextV τ δ ν) := by
  have hN := ht.1.1
  unfold fX0_passOne
  simp only [lit]
  exact c_pairs ht hd (tN τ) 0 fu Td ν (by omega) (fu_gt (by omega)) h g
end PASS
