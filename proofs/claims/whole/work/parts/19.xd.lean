/-! what a line tells -/
def sTr (τ : TD) (a b : Nat) : TD := ((a, b, tE τ, tF τ), (fun _ => 0), cl τ, cn τ, br τ, wo τ, fun _ => 5)
def sWk (τ : TD) (w c : Nat) (c0 : Bool) (b0 : Nat) (c1 : Bool) (b1 x : Nat) : TD := ((tN τ, tH τ, tE τ, tF τ), kd τ, (fun j => if j = w then c else cl τ j), (fun v j => if j = w then (if v = 0 then c0 else c1) else cn τ v j), (fun v j => if j = w then (if v = 0 then b0 else b1) else br τ v j), (fun j => if j = w then x else wo τ j), mn τ)
def sKd (τ : TD) (p k : Nat) : TD := ((tN τ, tH τ, tE τ, tF τ), (fun j => if j = p then k else kd τ j), cl τ, cn τ, br τ, wo τ, mn τ)
def sMn (τ : TD) (i w : Nat) : TD := ((tN τ, tH τ, tE τ, tF τ), kd τ, cl τ, cn τ, br τ, wo τ, fun j => if j = i then w else mn τ j)
def sEa (τ : TD) (e : Nat) : TD := ((tN τ, tH τ, e, tF τ), kd τ, cl τ, cn τ, br τ, wo τ, mn τ)
def sFi (τ : TD) (f : Nat) : TD := ((tN τ, tH τ, tE τ, f), kd τ, cl τ, cn τ, br τ, wo τ, mn τ)
section TELL
variable {τ : TD} {Tv Tm : Gp}
theorem TW_Tr (h : TW τ) {a b : Nat} (ha : 1 ≤ a ∧ a ≤ 6) (hb : 1 ≤ b ∧ b ≤ 4) : TW (sTr τ a b) := by
  obtain ⟨h1, h2, h3, h4, h5, h6, h7, h8, h9, h10, h11, h12, h13⟩ := h
  exact ⟨ha, hb, h3, h4, fun _ => by show 0 < 4; omega, h6, h7, h8, h9, h10, h11, h12, fun _ => by show 5 ≤ 5; omega⟩
theorem TW_Wk (h : TW τ) {w c : Nat} {c0 : Bool} {b0 : Nat} {c1 : Bool} {b1 x : Nat} (hw : w < 5) (hc : c < 4) (hb0 : b0 ≤ 20) (hb1 : b1 ≤ 20) (hx : x ≤ 20) : TW (sWk τ w c c0 b0 c1 b1 x) := by
  obtain ⟨h1, h2, h3, h4, h5, h6, h7, h8, h9, h10, h11, h12, h13⟩ := h
  have n5 : ¬ 5 = w := by omega
  refine ⟨h1, h2, h3, h4, h5, fun j => ?_, ?_, fun v => ?_, fun v => ?_, fun v j => ?_, ?_, fun j => ?_, h13⟩
  · show (if j = w then c else cl τ j) < 5
    have := h6 j
    split <;> omega
  · show (if 5 = w then c else cl τ 5) = 4
    rw [if_neg n5]; exact h7
  · show (if 5 = w then (if v = 0 then c0 else c1) else cn τ v 5) = true
    rw [if_neg n5]; exact h8 v
  · show (if 5 = w then (if v = 0 then b0 else b1) else br τ v 5) = 0
    rw [if_neg n5]; exact h9 v
  · show (if j = w then (if v = 0 then b0 else b1) else br τ v j) ≤ 20
    have := h10 v j
    split
    · split <;> omega
    · omega
  · show (if 5 = w then x else wo τ 5) = 0
    rw [if_neg n5]; exact h11
  · show (if j = w then x else wo τ j) ≤ 20
    have := h12 j
    split <;> omega
theorem TW_Kd (h : TW τ) {p k : Nat} (hk : k < 4) : TW (sKd τ p k) := by
  obtain ⟨h1, h2, h3, h4, h5, h6, h7, h8, h9, h10, h11, h12, h13⟩ := h
  refine ⟨h1, h2, h3, h4, fun j => ?_, h6, h7, h8, h9, h10, h11, h12, h13⟩
  show (if j = p then k else kd τ j) < 4
  have := h5 j
  split <;> omega
theorem TW_Mn (h : TW τ) {i w : Nat} (hw : w ≤ 5) : TW (sMn τ i w) := by
  obtain ⟨h1, h2, h3, h4, h5, h6, h7, h8, h9, h10, h11, h12, h13⟩ := h
  refine ⟨h1, h2, h3, h4, h5, h6, h7, h8, h9, h10, h11, h12, fun j => ?_⟩
  show (if j = i then w else mn τ j) ≤ 5
  have := h13 j
  split <;> omega
theorem TW_Ea (h : TW τ) {e : Nat} (he : e ≤ 20) : TW (sEa τ e) := by
  obtain ⟨h1, h2, h3, h4, h5⟩ := h
  exact ⟨h1, h2, he, h4, h5⟩
theorem TW_Fi (h : TW τ) {f : Nat} (hf : f ≤ 99) : TW (sFi τ f) := by
  obtain ⟨h1, h2, h3, h4, h5⟩ := h
  exact ⟨h1, h2, h3, hf, h5⟩
theorem c_settle (h : CT Tv τ) {a b : Nat} (ha : 1 ≤ a ∧ a ≤ 6) (hb : 1 ≤ b ∧ b ≤ 4) : ∃ Ta, fX9_settle Tv (nI a) (nI b) = some Ta ∧ CT Ta (sTr τ a b) := by
  obtain ⟨hw, h0, h1, h2, h3, hk, hc, hbr, hwo, hm⟩ := h
  refine ⟨_, rfl, TW_Tr hw ha hb, ?_, ?_, ?_, ?_, fun i hi => ?_, fun w hi => ?_, fun v w hv hi => ?_, fun w hi => ?_, fun i hi => ?_⟩
  · rw [uc_ap, if_neg (by omega), uc_ap, if_neg (by omega), u2_ap, if_neg (by omega), u2_same]; rfl
  · rw [uc_ap, if_neg (by omega), uc_ap, if_neg (by omega), u2_same]; rfl
  · rw [uc_ap, if_neg (by omega), uc_ap, if_neg (by omega), u2_ap, if_neg (by omega), u2_ap, if_neg (by omega)]; exact h2
  · rw [uc_ap, if_neg (by omega), uc_ap, if_neg (by omega), u2_ap, if_neg (by omega), u2_ap, if_neg (by omega)]; exact h3
  · rw [uc_ap, if_neg (by omega), uc_ap, if_pos rfl, ev_fill_ap _ _ _ hi]; rfl
  · rw [uc_ap, if_neg (by omega), uc_ap, if_neg (by omega), u2_ap, if_neg (by omega), u2_ap, if_neg (by omega)]; exact hc w hi
  · rw [uc_ap, if_neg (by omega), uc_ap, if_neg (by omega), u2_ap, if_neg (by omega), u2_ap, if_neg (by omega)]; exact hbr v w hv hi
  · rw [uc_ap, if_neg (by omega), uc_ap, if_neg (by omega), u2_ap, if_neg (by omega), u2_ap, if_neg (by omega)]; exact hwo w hi
  · rw [uc_ap, if_pos rfl, ev_fill_ap _ _ _ hi]; rfl
theorem c_tellKind (h : CT Tv τ) {p k : Nat} (hp : p < tN τ) (hk4 : k < 4) : ∃ Ta, fX9_tellKind Tv (nI p) (nI k) = some Ta ∧ CT Ta (sKd τ p k) := by
  have hh := c_hasPair h (nI p)
  obtain ⟨hw, h0, h1, h2, h3, hk, hc, hbr, hwo, hm⟩ := h
  have hn := hw.1
  unfold fX9_tellKind
  have q : (ix (nI p) 6) = True := by rw [e_ix (by omega)]; exact eq_true (by omega)
  have q6 : (nI 6 ≤ nI p) = False := by rw [e_le (by omega) (by omega)]; exact eq_false (by omega)
  rw [hh, ok_nI hp (by omega)]
  simp only [bd1_s, lq, bI_0]
  rw [if_neg (by simp)]
  simp only [q6, q, if_true, if_false]
  rw [cl_nI (by omega)]
  refine ⟨_, rfl, TW_Kd hw hk4, ?_, ?_, ?_, ?_, fun i hi => ?_, fun w hi => ?_, fun v w hv hi => ?_, fun w hi => ?_, fun i hi => ?_⟩
  · rw [u2_ap, if_neg (by omega)]; exact h0
  · rw [u2_ap, if_neg (by omega)]; exact h1
  · rw [u2_ap, if_neg (by omega)]; exact h2
  · rw [u2_ap, if_neg (by omega)]; exact h3
  · rw [u2_ap]
    show _ = nI (if i = p then k else kd τ i)
    by_cases c : i = p
    · rw [if_pos ⟨rfl, c⟩, if_pos c]
    · rw [if_neg (fun e => c e.2), if_neg c]; exact hk i hi
  · rw [u2_ap, if_neg (by omega)]; exact hc w hi
  · rw [u2_ap, if_neg (by omega)]; exact hbr v w hv hi
  · rw [u2_ap, if_neg (by omega)]; exact hwo w hi
  · rw [u2_ap, if_neg (by omega)]; exact hm i hi
theorem c_tellMeant (h : CT Tv τ) {o s w : Nat} (ho : o < 2) (hs : s < 48) (hw5 : w ≤ 5) : ∃ Ta, fX9_tellMeant Tv (nI o) (nI s) (nI w) = some Ta ∧ CT Ta (sMn τ (48 * o + s) w) := by
  obtain ⟨hw, h0, h1, h2, h3, hk, hc, hbr, hwo, hm⟩ := h
  unfold fX9_tellMeant
  have q : (ix (nI (o * 48 + s)) 96) = True := by rw [e_ix (by omega)]; exact eq_true (by omega)
  have w1 : fX10_within (nI (o * 48 + s)) (nI 0) (nI 96 - nI 1) = some (bI true) := by
    rw [show nI 96 - nI 1 = nI (96 - 1) from rfl, within_ok (by omega) (by omega), ok_nI (by omega) (by omega)]
  simp only [lq, e_mul, e_add, w1, bd1_s, bI_0]
  rw [if_neg (by simp)]
  simp only [q, if_true]
  rw [cl_nI (by omega), Nat.mul_comm o 48]
  refine ⟨_, rfl, TW_Mn hw hw5, ?_, ?_, ?_, ?_, fun i hi => ?_, fun w hi => ?_, fun v w hv hi => ?_, fun w hi => ?_, fun i hi => ?_⟩
  · rw [u2_ap, if_neg (by omega)]; exact h0
  · rw [u2_ap, if_neg (by omega)]; exact h1
  · rw [u2_ap, if_neg (by omega)]; exact h2
  · rw [u2_ap, if_neg (by omega)]; exact h3
  · rw [u2_ap, if_neg (by omega)]; exact hk i hi
  · rw [u2_ap, if_neg (by omega)]; exact hc w hi
  · rw [u2_ap, if_neg (by omega)]; exact hbr v w hv hi
  · rw [u2_ap, if_neg (by omega)]; exact hwo w hi
  · rw [u2_ap]
    show _ = nI (if i = 48 * o + s then w else mn τ i)
    by_cases c : i = 48 * o + s
    · rw [if_pos ⟨rfl, c⟩, if_pos c]
    · rw [if_neg (fun e => c e.2), if_neg c]; exact hm i hi
theorem c_tellEats (h : CT Tv τ) {e : Nat} (he : e ≤ 20) : CT (u2 Tv 0 2 (nI e)) (sEa τ e) := by
  obtain ⟨hw, h0, h1, h2, h3, hk, hc, hbr, hwo, hm⟩ := h
  refine ⟨TW_Ea hw he, ?_, ?_, u2_same _ _ _ _, ?_, fun i hi => ?_, fun w hi => ?_, fun v w hv hi => ?_, fun w hi => ?_, fun i hi => ?_⟩
  · rw [u2_ap, if_neg (by omega)]; exact h0
  · rw [u2_ap, if_neg (by omega)]; exact h1
  · rw [u2_ap, if_neg (by omega)]; exact h3
  · rw [u2_ap, if_neg (by omega)]; exact hk i hi
  · rw [u2_ap, if_neg (by omega)]; exact hc w hi
  · rw [u2_ap, if_neg (by omega)]; exact hbr v w hv hi
  · rw [u2_ap, if_neg (by omega)]; exact hwo w hi
  · rw [u2_ap, if_neg (by omega)]; exact hm i hi
theorem c_tellFine (h : CT Tv τ) {f : Nat} (hf : f ≤ 99) : CT (u2 Tv 0 3 (nI f)) (sFi τ f) := by
  obtain ⟨hw, h0, h1, h2, h3, hk, hc, hbr, hwo, hm⟩ := h
  refine ⟨TW_Fi hw hf, ?_, ?_, ?_, u2_same _ _ _ _, fun i hi => ?_, fun w hi => ?_, fun v w hv hi => ?_, fun w hi => ?_, fun i hi => ?_⟩
  · rw [u2_ap, if_neg (by omega)]; exact h0
  · rw [u2_ap, if_neg (by omega)]; exact h1
  · rw [u2_ap, if_neg (by omega)]; exact h2
  · rw [u2_ap, if_neg (by omega)]; exact hk i hi
  · rw [u2_ap, if_neg (by omega)]; exact hc w hi
  · rw [u2_ap, if_neg (by omega)]; exact hbr v w hv hi
  · rw [u2_ap, if_neg (by omega)]; exact hwo w hi
  · rw [u2_ap, if_neg (by omega)]; exact hm i hi
def bx (c : Bool) (b : Nat) : Int32 := if c = true then nI b else -nI 1
theorem c_tellWk (h : CT Tv τ) {w c : Nat} {c0 : Bool} {b0 : Nat} {c1 : Bool} {b1 x : Nat} (hw5 : w < 5) (hc4 : c < 4) (hb0 : b0 ≤ 20) (hb1 : b1 ≤ 20) (hx : x ≤ 20) : ∃ Ta Tb Tc, fX9_tellWork Tv (nI w) (nI c) (nI x) = some Ta ∧ fX9_tellBread Ta 0 (nI w) (bx c0 b0) = some Tb ∧ fX9_tellBread Tb 1 (nI w) (bx c1 b1) = some Tc ∧ CT Tc (sWk τ w c c0 b0 c1 b1 x) := by
  obtain ⟨hw, h0, h1, h2, h3, hk, hc, hbr, hwo, hm⟩ := h
  have q0 : (nI w < nI 0) = False := by rw [e_lt (by omega) (by omega)]; exact eq_false (by omega)
  have q1 : (nI w < nI 5) = True := by rw [e_lt (by omega) (by omega)]; exact eq_true (by omega)
  have q2 : (ix (nI w) 5) = True := by rw [e_ix (by omega)]; exact eq_true (by omega)
  have q3 : (ix (nI (0 * 5 + w)) 10) = True := by rw [e_ix (by omega)]; exact eq_true (by omega)
  have q4 : (ix (nI (1 * 5 + w)) 10) = True := by rw [e_ix (by omega)]; exact eq_true (by omega)
  have q5 : (nI 0 < nI 0) = False := by rw [e_lt (by omega) (by omega)]; exact eq_false (by omega)
  have q6 : (nI 1 < nI 0) = False := by rw [e_lt (by omega) (by omega)]; exact eq_false (by omega)
  have q7 : (nI 2 ≤ nI 0) = False := by rw [e_le (by omega) (by omega)]; exact eq_false (by omega)
  have q8 : (nI 2 ≤ nI 1) = False := by rw [e_le (by omega) (by omega)]; exact eq_false (by omega)
  have z := cl_nI (show w < 2 ^ 31 by omega)
  have z3 := cl_nI (show 0 * 5 + w < 2 ^ 31 by omega)
  have z4 := cl_nI (show 1 * 5 + w < 2 ^ 31 by omega)
  refine ⟨u2 (u2 Tv 2 w (nI c)) 4 w (nI x), u2 (u2 (u2 Tv 2 w (nI c)) 4 w (nI x)) 3 (0 * 5 + w) (bx c0 b0), u2 (u2 (u2 (u2 Tv 2 w (nI c)) 4 w (nI x)) 3 (0 * 5 + w) (bx c0 b0)) 3 (1 * 5 + w) (bx c1 b1), ?_, ?_, ?_, TW_Wk hw hw5 hc4 hb0 hb1 hx, ?_, ?_, ?_, ?_, fun i hi => ?_, fun j hi => ?_, fun v j hv hi => ?_, fun j hi => ?_, fun i hi => ?_⟩
  · unfold fX9_tellWork
    simp only [lit, q0, q1, q2, z, if_true, if_false]
  · unfold fX9_tellBread
    simp only [lit, q0, q1, q3, q5, q7, e_mul, e_add, z3, if_true, if_false]
  · unfold fX9_tellBread
    simp only [lit, q0, q1, q4, q6, q8, e_mul, e_add, z4, if_true, if_false]
  · rw [u2_ap, if_neg (by omega), u2_ap, if_neg (by omega), u2_ap, if_neg (by omega), u2_ap, if_neg (by omega)]; exact h0
  · rw [u2_ap, if_neg (by omega), u2_ap, if_neg (by omega), u2_ap, if_neg (by omega), u2_ap, if_neg (by omega)]; exact h1
  · rw [u2_ap, if_neg (by omega), u2_ap, if_neg (by omega), u2_ap, if_neg (by omega), u2_ap, if_neg (by omega)]; exact h2
  · rw [u2_ap, if_neg (by omega), u2_ap, if_neg (by omega), u2_ap, if_neg (by omega), u2_ap, if_neg (by omega)]; exact h3
  · rw [u2_ap, if_neg (by omega), u2_ap, if_neg (by omega), u2_ap, if_neg (by omega), u2_ap, if_neg (by omega)]; exact hk i hi
  · rw [u2_ap, if_neg (by omega), u2_ap, if_neg (by omega), u2_ap, if_neg (by omega), u2_ap]
    show _ = nI (if j = w then c else cl τ j)
    by_cases d : j = w
    · rw [if_pos ⟨rfl, d⟩, if_pos d]
    · rw [if_neg (fun e => d e.2), if_neg d]; exact hc j hi
  · have hbc : bcell (sWk τ w c c0 b0 c1 b1 x) v j = if j = w then (if v = 0 then bx c0 b0 else bx c1 b1) else bcell τ v j := by
      unfold bcell bx
      show (if (if j = w then (if v = 0 then c0 else c1) else cn τ v j) = true then nI (if j = w then (if v = 0 then b0 else b1) else br τ v j) else -nI 1) = _
      by_cases d : j = w
      · simp only [d, if_true]
        by_cases e : v = 0
        · simp only [e, if_true]
        · simp only [e, if_false]
      · simp only [d, if_false]
    rw [hbc, u2_ap]
    by_cases d : j = w
    · have v2 : v = 0 ∨ v = 1 := by omega
      rcases v2 with rfl | rfl
      · rw [if_neg (by omega), u2_ap, if_pos (by omega), if_pos d, if_pos rfl]
      · rw [if_pos (by omega), if_pos d, if_neg (by omega)]
    · rw [if_neg (by omega), u2_ap, if_neg (by omega), u2_ap, if_neg (by omega), u2_ap, if_neg (by omega), if_neg d]
      exact hbr v j hv hi
  · rw [u2_ap, if_neg (by omega), u2_ap, if_neg (by omega), u2_ap]
    show _ = nI (if j = w then x else wo τ j)
    by_cases d : j = w
    · rw [if_pos ⟨rfl, d⟩, if_pos d]
    · rw [if_neg (fun e => d e.2), if_neg d, u2_ap, if_neg (by omega)]; exact hwo j hi
  · rw [u2_ap, if_neg (by omega), u2_ap, if_neg (by omega), u2_ap, if_neg (by omega), u2_ap, if_neg (by omega)]; exact hm i hi
end TELL
