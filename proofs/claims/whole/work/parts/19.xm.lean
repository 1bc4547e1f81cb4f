section LOOP
variable {d i L : Nat} {xs : Nat → Int32} {rec : RecT} {Tm Te Tp Tl Td Tk Tx Tt Tv Ta Tb Tn Th Tg Tr : Gp}
theorem law_step (hL : L ≤ 3072) (hi : i + 6 ≤ L) (hd : d + 99 < 2 ^ 20) (h : RLn d Tm Te Tp Td Tx Tt Ta Tb Th Tg Tr) : LSt d rec i (fL_law_18 xs L rec Tm Te Tp Tl Td Tk Tx Tt Tv Ta Tb Tn Th Tg Tr (nI i)) := by
  have lL : Int32.ofNat L = nI L := rfl
  have c0 : (nI (L - 6) < nI i) = False := by rw [e_lt (by omega) (by omega)]; exact eq_false (by omega)
  have es : nI L - nI 6 = nI (L - 6) := e_sub (by omega)
  have q0 : (ix (nI i) L) = True := by rw [e_ix (by omega)]; exact eq_true (by omega)
  have q1 : (ix (nI (i + 1)) L) = True := by rw [e_ix (by omega)]; exact eq_true (by omega)
  have q2 : (ix (nI (i + 2)) L) = True := by rw [e_ix (by omega)]; exact eq_true (by omega)
  have q3 : (ix (nI (i + 3)) L) = True := by rw [e_ix (by omega)]; exact eq_true (by omega)
  have q4 : (ix (nI (i + 4)) L) = True := by rw [e_ix (by omega)]; exact eq_true (by omega)
  have q5 : (ix (nI (i + 5)) L) = True := by rw [e_ix (by omega)]; exact eq_true (by omega)
  have b0 : nI 0 = bI false := rfl
  have b1 : nI 1 = bI true := rfl
  unfold fL_law_18
  simp only [lL, lq, es, c0, q0, q1, q2, q3, q4, q5, e_add, if_true, if_false]
  by_cases o : xs (nI i).toNatClampNeg &&& nI 31 = nI 0
  · rw [if_pos o]; exact S_write h _ _
  rw [if_neg o]; clear o
  by_cases o : xs (nI i).toNatClampNeg &&& nI 31 = nI 1
  · rw [if_pos o]; exact S_erase h
  rw [if_neg o]; clear o
  by_cases o : xs (nI i).toNatClampNeg &&& nI 31 = nI 2
  · rw [if_pos o]; exact S_fault h
  rw [if_neg o]; clear o
  by_cases o : xs (nI i).toNatClampNeg &&& nI 31 = nI 3
  · rw [if_pos o]; exact S_treaty h
  rw [if_neg o]; clear o
  by_cases o : xs (nI i).toNatClampNeg &&& nI 31 = nI 4
  · rw [if_pos o]; exact S_work h _ _
  rw [if_neg o]; clear o
  by_cases o : xs (nI i).toNatClampNeg &&& nI 31 = nI 5
  · rw [if_pos o]; exact S_meant h _ _ _ _
  rw [if_neg o]; clear o
  by_cases o : xs (nI i).toNatClampNeg &&& nI 31 = nI 6
  · rw [if_pos o]; exact S_done h _ _ _ _
  rw [if_neg o]; clear o
  by_cases o : xs (nI i).toNatClampNeg &&& nI 31 = nI 7
  · rw [if_pos o]
    unfold fL_law_421 fL_law_448
    simp only [lq, e_add, q1, q2, q3, if_true]
    by_cases z : xs (nI (i + 3)).toNatClampNeg = nI 0
    · simp only [eq_true z, if_true]
      exact S_ill h _ _ _
    · simp only [eq_false z, if_false]
      exact S_ill h _ _ _
  rw [if_neg o]; clear o
  by_cases o : xs (nI i).toNatClampNeg &&& nI 31 = nI 8
  · rw [if_pos o]; exact S_days h hd _
  rw [if_neg o]; clear o
  by_cases o : xs (nI i).toNatClampNeg &&& nI 31 = nI 9
  · rw [if_pos o]; exact S_person h _ _ _
  rw [if_neg o]; clear o
  by_cases o : xs (nI i).toNatClampNeg &&& nI 31 = nI 10
  · rw [if_pos o]; exact S_bread h _
  rw [if_neg o]; clear o
  by_cases o : xs (nI i).toNatClampNeg &&& nI 31 = nI 11
  · rw [if_pos o]; exact S_breaches h _
  rw [if_neg o]; clear o
  by_cases o : xs (nI i).toNatClampNeg &&& nI 31 = nI 12
  · rw [if_pos o]; exact S_as h _ _
  rw [if_neg o]; clear o
  by_cases o : xs (nI i).toNatClampNeg &&& nI 31 = nI 13
  · rw [if_pos o]; exact S_plan h _ _ _
  rw [if_neg o]; clear o
  by_cases o : xs (nI i).toNatClampNeg &&& nI 31 = nI 14
  · rw [if_pos o]; exact S_planned h _ _ _ _ _
  rw [if_neg o]; clear o
  by_cases o : xs (nI i).toNatClampNeg &&& nI 31 = nI 15
  · rw [if_pos o]
    unfold fL_law_736 fL_law_768
    simp only [lq, e_add, q1, q2, q3, q4, if_true]
    by_cases z : xs (nI (i + 4)).toNatClampNeg = nI 0
    · simp only [eq_true z, if_true]
      rw [b0]
      exact S_news h _ _ _ false
    · simp only [eq_false z, if_false]
      exact S_news h _ _ _ true
  rw [if_neg o]; clear o
  by_cases o : xs (nI i).toNatClampNeg &&& nI 31 = nI 16
  · rw [if_pos o]; exact S_harm h _ _ _
  rw [if_neg o]; clear o
  by_cases o : xs (nI i).toNatClampNeg &&& nI 31 = nI 17
  · rw [if_pos o]; exact S_anew h _
  rw [if_neg o]; clear o
  by_cases o : xs (nI i).toNatClampNeg &&& nI 31 = nI 18
  · rw [if_pos o]; exact S_forced h _ _
  rw [if_neg o]; clear o
  by_cases o : xs (nI i).toNatClampNeg &&& nI 31 = nI 19
  · rw [if_pos o]; exact S_like h _ _ _ _
  rw [if_neg o]; clear o
  by_cases o : xs (nI i).toNatClampNeg &&& nI 31 = nI 20
  · rw [if_pos o]; exact S_fours h _
  rw [if_neg o]; clear o
  by_cases o : xs (nI i).toNatClampNeg &&& nI 31 = nI 21
  · rw [if_pos o]
    unfold fL_law_965 fL_law_982
    simp only [lq, e_add, q1, if_true]
    by_cases z : xs (nI (i + 1)).toNatClampNeg = nI 0
    · simp only [eq_true z, if_true]
      exact S_record h false
    · simp only [eq_false z, if_false]
      exact S_record h true
  rw [if_neg o]; clear o
  by_cases o : xs (nI i).toNatClampNeg &&& nI 31 = nI 22
  · rw [if_pos o]; exact S_burn h
  rw [if_neg o]; clear o
  by_cases o : xs (nI i).toNatClampNeg &&& nI 31 = nI 23
  · rw [if_pos o]; exact S_slips h _ _ _
  rw [if_neg o]; clear o
  by_cases o : xs (nI i).toNatClampNeg &&& nI 31 = nI 24
  · rw [if_pos o]; exact S_keep h _
  rw [if_neg o]; clear o
  by_cases o : xs (nI i).toNatClampNeg &&& nI 31 = nI 25
  · rw [if_pos o]; exact S_back h _
  rw [if_neg o]; clear o
  by_cases o : xs (nI i).toNatClampNeg &&& nI 31 = nI 26
  · rw [if_pos o]; exact S_count h _
  rw [if_neg o]; clear o
  exact ⟨_, _, _, _, _, _, _, _, _, _, _, _, _, _, _, rfl, RLn_m h⟩
theorem law_loop (hL : L ≤ 3072) : ∀ m i n d Tm Te Tp Tl Td Tk Tx Tt Tv Ta Tb Tn Th Tg Tr, i + 6 * m ≤ L → L < i + 6 * m + 6 → m < n → d + 99 * m < 2 ^ 20 → RLn d Tm Te Tp Td Tx Tt Ta Tb Th Tg Tr → lL_law_18 xs L n Tm Te Tp Tl Td Tk Tx Tt Tv Ta Tb Tn Th Tg Tr (nI i) = some 1 := by
  intro m
  induction m with
  | zero =>
    intro i n d Tm Te Tp Tl Td Tk Tx Tt Tv Ta Tb Tn Th Tg Tr h1 h2 hn hd h
    obtain ⟨n, rfl, -⟩ := gt_s hn
    show fL_law_18 xs L (lL_law_18 xs L n) Tm Te Tp Tl Td Tk Tx Tt Tv Ta Tb Tn Th Tg Tr (nI i) = some 1
    unfold fL_law_18
    have e := e_sbI (a := L) (b := 6) (by omega) (by omega)
    have c : Int32.ofNat L - 6 < nI i := by
      show nI L - nI 6 < nI i
      rw [Int32.lt_iff_toInt_lt, e, nI_toInt (by omega)]
      omega
    rw [if_pos c]
  | succ m ih =>
    intro i n d Tm Te Tp Tl Td Tk Tx Tt Tv Ta Tb Tn Th Tg Tr h1 h2 hn hd h
    obtain ⟨n, rfl, hn⟩ := gt_s hn
    show fL_law_18 xs L (lL_law_18 xs L n) Tm Te Tp Tl Td Tk Tx Tt Tv Ta Tb Tn Th Tg Tr (nI i) = some 1
    obtain ⟨Tm', Te', Tp', Tl', Td', Tk', Tx', Tt', Tv', Ta', Tb', Tn', Th', Tg', Tr', e, h'⟩ := law_step (xs := xs) (rec := lL_law_18 xs L n) (Tl := Tl) (Tk := Tk) (Tv := Tv) (Tn := Tn) hL (show i + 6 ≤ L by omega) (show d + 99 < 2 ^ 20 by omega) h
    rw [e]
    exact ih (i + 6) n (d + 99) _ _ _ _ _ _ _ _ _ _ _ _ _ _ _ (by omega) (by omega) (by omega) (by omega) h'
end LOOP
/-! the objects at their start -/
def td0 : TD := ((2, 2, 0, 1), (fun _ => 0), (fun w => if w = 5 then 4 else 0), (fun _ _ => true), (fun _ _ => 0), (fun _ => 0), fun _ => 5)
theorem TW_0 : TW td0 := by
  refine ⟨⟨by show 1 ≤ 2; omega, by show 2 ≤ 6; omega⟩, ⟨by show 1 ≤ 2; omega, by show 2 ≤ 4; omega⟩, by show 0 ≤ 20; omega, by show 1 ≤ 99; omega, fun _ => by show 0 < 4; omega, fun w => ?_, rfl, fun _ => rfl, fun _ => rfl, fun _ _ => by show 0 ≤ 20; omega, rfl, fun _ => by show 0 ≤ 20; omega, fun _ => by show 5 ≤ 5; omega⟩
  show (if w = 5 then 4 else 0) < 5
  split <;> omega
theorem Zg {c j : Nat} : (fun _ _ => 0 : Gp) c j = nI 0 := rfl
theorem i_T : ∃ oT, fX9_init = some oT ∧ CT oT td0 := by
  refine ⟨_, rfl, TW_0, ?_, ?_, ?_, ?_, fun i hi => ?_, fun w hi => ?_, fun v w hv hi => ?_, fun w hi => ?_, fun i hi => ?_⟩
  · rw [uc_ap, if_neg (by omega), uc_ap, if_neg (by omega), u2_ap, if_neg (by omega), u2_same]; rfl
  · rw [uc_ap, if_neg (by omega), uc_ap, if_neg (by omega), u2_same]; rfl
  · rw [uc_ap, if_neg (by omega), uc_ap, if_neg (by omega), u2_ap, if_neg (by omega), u2_ap, if_neg (by omega), u2_ap, if_neg (by omega)]; rfl
  · rw [uc_ap, if_neg (by omega), uc_ap, if_neg (by omega), u2_ap, if_neg (by omega), u2_ap, if_neg (by omega), u2_same]; rfl
  · rw [uc_ap, if_neg (by omega), uc_ap, if_pos rfl, ev_fill_ap _ _ _ hi]; rfl
  · rw [uc_ap, if_neg (by omega), uc_ap, if_neg (by omega), u2_ap, if_neg (by omega), u2_ap, if_neg (by omega), u2_ap, if_neg (by omega)]
    show nI 0 = nI (if w = 5 then 4 else 0)
    rw [if_neg (by omega)]
  · rw [uc_ap, if_neg (by omega), uc_ap, if_neg (by omega), u2_ap, if_neg (by omega), u2_ap, if_neg (by omega), u2_ap, if_neg (by omega)]; rfl
  · rw [uc_ap, if_neg (by omega), uc_ap, if_neg (by omega), u2_ap, if_neg (by omega), u2_ap, if_neg (by omega), u2_ap, if_neg (by omega)]; rfl
  · rw [uc_ap, if_pos rfl, ev_fill_ap _ _ _ hi]; rfl
theorem i_D : ∃ oD, fX0_init = some oD ∧ C0 oD bgD ∧ C1 oD bgV := by
  obtain ⟨Ta, e, h⟩ := c_begin sX0_init
  refine ⟨Ta, ?_, h⟩
  unfold fX0_init
  rw [e]
  rfl
theorem m_i173 : ∀ k i n (Tm : Gp), i + k = 96 → k < n → ∃ T1 T2 : Gp, lX11_init_173 n Tm (nI i) = some T2 ∧ (∀ j, i ≤ j → j < 96 → T1 7 j = nI 5) ∧ (∀ c j, ¬ (c = 7 ∧ i ≤ j ∧ j < 96) → T1 c j = Tm c j) ∧ M0 T2 0 bgD ∧ M1 T2 0 bgV ∧ ∀ c j, ¬ (c = 1 ∧ j < 87) → T2 c j = T1 c j := by
  intro k
  induction k with
  | zero =>
    intro i n Tm hk hn
    obtain ⟨n, rfl, -⟩ := gt_s hn
    show ∃ T1 T2 : Gp, fX11_init_173 (lX11_init_173 n) Tm (nI i) = some T2 ∧ _
    unfold fX11_init_173
    have q0 : (nI 96 ≤ nI i) = True := by rw [e_le (by omega) (by omega)]; exact eq_true (by omega)
    obtain ⟨T2, b1, b2, b3, b4⟩ := m_begin Tm
    simp only [lit, q0, if_true, b1, bd1_s]
    exact ⟨Tm, T2, rfl, fun j h1 h2 => by omega, fun c j _ => rfl, b2, b3, b4⟩
  | succ k ih =>
    intro i n Tm hk hn
    obtain ⟨n, rfl, hn⟩ := gt_s hn
    show ∃ T1 T2 : Gp, fX11_init_173 (lX11_init_173 n) Tm (nI i) = some T2 ∧ _
    unfold fX11_init_173
    have q0 : (nI 96 ≤ nI i) = False := by rw [e_le (by omega) (by omega)]; exact eq_false (by omega)
    have q : (ix (nI i) 96) = True := by rw [e_ix (by omega)]; exact eq_true (by omega)
    simp only [lit, q0, q, if_true, if_false, e_add, cl_nI (show i < 2 ^ 31 by omega)]
    obtain ⟨T1, T2, a1, a2, a3, a4⟩ := ih (i + 1) n (u2 Tm 7 i (nI 5)) (by omega) (by omega)
    refine ⟨T1, T2, a1, fun j h1 h2 => ?_, fun c j h => ?_, a4⟩
    · by_cases d : j = i
      · rw [a3 7 j (by omega), d, u2_same]
      · exact a2 j (by omega) h2
    · rw [a3 c j (by omega), u2_ap, if_neg (by omega)]
theorem i_M : ∃ oM, fX11_init = some oM ∧ RT oM td0 ∧ M0 oM 0 bgD ∧ M1 oM 0 bgV ∧ ∀ c j, c ≠ 0 → c ≠ 1 → c ≠ 5 → c ≠ 7 → oM c j = nI 0 := by
  obtain ⟨T1, T2, a1, a2, a3, a4, a5, a6⟩ := m_i173 96 0 fu (u2 sX11_init 5 20 (nI 4)) (by omega) (fu_gt (by omega))
  have z0 : ∀ c j, c ≠ 0 → sX11_init c j = nI 0 := fun c j h => by
    unfold sX11_init
    rw [u2_ap, if_neg (by omega), u2_ap, if_neg (by omega), u2_ap, if_neg (by omega)]
    rfl
  have s : ∀ c j, ¬ (c = 1 ∧ j < 87) → ¬ (c = 7 ∧ j < 96) → T2 c j = u2 sX11_init 5 20 (nI 4) c j := fun c j h1 h2 => by
    rw [a6 c j h1, a3 c j (by omega)]
  refine ⟨T2, a1, ⟨TW_0, ?_, ?_, ?_, ?_, fun i hi => ?_, fun w hi => ?_, fun v w hv hi => ?_, fun w hi => ?_, fun i hi => ?_⟩, a4, a5, fun c j h0 h1 h5 h7 => ?_⟩
  · rw [s 0 6 (by omega) (by omega)]; rfl
  · rw [s 0 7 (by omega) (by omega)]; rfl
  · rw [s 0 11 (by omega) (by omega)]; rfl
  · rw [s 0 12 (by omega) (by omega)]; rfl
  · rw [s 6 i (by omega) (by omega), u2_ap, if_neg (by omega), z0 6 i (by omega)]; rfl
  · rw [s 5 _ (by omega) (by omega), u2_ap]
    show _ = nI (if w = 5 then 4 else 0)
    by_cases c : w = 5
    · rw [if_pos (by omega), if_pos c]
    · rw [if_neg (by omega), if_neg c, z0 5 _ (by omega)]
  · rw [s 5 _ (by omega) (by omega), u2_ap, if_neg (by omega), z0 5 _ (by omega)]; rfl
  · rw [s 5 _ (by omega) (by omega), u2_ap, if_neg (by omega), z0 5 _ (by omega)]; rfl
  · rw [a6 7 i (by omega), a2 i (by omega) hi]; rfl
  · rw [s c j (by omega) (by omega), u2_ap, if_neg (by omega), z0 c j h0]
theorem i_M0 {oM : Gp} (e : fX11_init = some oM) : oM 0 3 = nI 0 ∧ oM 0 29 = nI 0 := by
  obtain ⟨T1, T2, a1, a2, a3, a4, a5, a6⟩ := m_i173 96 0 fu (u2 sX11_init 5 20 (nI 4)) (by omega) (fu_gt (by omega))
  have e2 : fX11_init = some T2 := a1
  have e3 : oM = T2 := Option.some.inj (e.symm.trans e2)
  rw [e3]
  constructor
  · rw [a6 0 3 (by omega), a3 0 3 (by omega)]; rfl
  · rw [a6 0 29 (by omega), a3 0 29 (by omega)]; rfl
theorem whole_pure {L : Nat} (xs : Nat → Int32) (hL : L ≤ 3072) : ∃ oT oD oM : Gp, fX9_init = some oT ∧ fX0_init = some oD ∧ fX11_init = some oM ∧ lL_law_18 xs L fu oM (fun _ _ => 0) (fun _ _ => 0) (fun _ _ => 0) oD (fun _ _ => 0) (fun _ _ => 0) oT oT oD oD (fun _ _ => 0) (fun _ _ => 0) (fun _ _ => 0) (fun _ _ => 0) 0 = some 1 := by
  obtain ⟨oT, t1, t2⟩ := i_T
  obtain ⟨oD, d1, d2, d3⟩ := i_D
  obtain ⟨oM, m1, m2, m3, m4, m5⟩ := i_M
  obtain ⟨n1, n2⟩ := i_M0 m1
  refine ⟨oT, oD, oM, t1, d1, m1, ?_⟩
  have R : RLn 0 oM (fun _ _ => 0) (fun _ _ => 0) oD (fun _ _ => 0) oT oD oD (fun _ _ => 0) (fun _ _ => 0) (fun _ _ => 0) := by
    refine ⟨td0, t2, m2, ⟨bgD, bgV, d2, d3, m3, m4, Nat.le_refl _⟩, ⟨Or.inl ⟨rfl, m5 2 0 (by omega) (by omega) (by omega) (by omega)⟩, Or.inl ⟨rfl, m5 2 1 (by omega) (by omega) (by omega) (by omega)⟩⟩, ⟨0, by omega, rfl, n1, fun i hi => by omega⟩, fun o _ => Or.inl rfl, ⟨0, by omega, rfl, n2, fun i hi => by omega⟩, fun i hi => ⟨0, by omega, rfl, m5 13 i (by omega) (by omega) (by omega) (by omega)⟩, fun v i j hv hi hj hij => ⟨0, by omega, rfl, m5 15 _ (by omega) (by omega) (by omega) (by omega)⟩⟩
  exact law_loop hL (L / 6) 0 fu 0 _ _ _ _ _ _ _ _ _ _ _ _ _ _ _ (by omega) (by omega) (fu_gt (by omega)) (by omega) R
