section TREATY2
variable {Tx Tm Tt Tp Td Te Ta Tb : Gp} {τ : TD} {d : Nat}
theorem FC_4 {A B : Gp} (h : FC A B) (j : Nat) : B 4 j = A 4 j := h 4 j (by show (0 : Nat) ≠ 1; omega)
theorem m_t13 (T2 : Gp) {q : Nat} (hq : q ≤ 10) (σ : Nat → TD) (hs : ∀ k, k < q → AP T2 k (σ k) (σ (k + 1))) (h5 : T2 0 5 = nI q) : ∀ k i n Tm, i + k = q → k < n → RT Tm (σ i) → FC T2 Tm → ∃ T3 T4, lX11_treaty_13 n Tm (nI i) = some (nI q, u2 (u2 (u2 T4 2 0 (nI 0)) 2 1 (nI 0)) 0 3 (nI 0)) ∧ RT T3 (σ q) ∧ FC T2 T3 ∧ M0 T4 0 bgD ∧ M1 T4 0 bgV ∧ ∀ c j, ¬ (c = 1 ∧ j < 87) → T4 c j = T3 c j := by
  intro k
  induction k with
  | zero =>
    intro i n Tm hk hn r f
    obtain ⟨n, rfl, -⟩ := gt_s hn
    rw [sX11_treaty_13]
    unfold fX11_treaty_13
    have g5 : Tm 0 5 = nI q := by rw [f 0 5 (by decide)]; exact h5
    rw [g5, if_pos (by rw [e_le (by omega) (by omega)]; omega)]
    obtain ⟨T4, b1, b2, b3, b4⟩ := m_begin Tm
    rw [b1]
    simp only [bd1_s]
    refine ⟨Tm, T4, ?_, ?_, f, b2, b3, b4⟩
    · rw [b4 0 5 (by omega), g5]
      rfl
    · have : i = q := by omega
      rw [← this]; exact r
  | succ k ih =>
    intro i n Tm hk hn r f
    obtain ⟨n, rfl, hn⟩ := gt_s hn
    rw [sX11_treaty_13]
    unfold fX11_treaty_13
    have g5 : Tm 0 5 = nI q := by rw [f 0 5 (by decide)]; exact h5
    rw [g5, if_neg (by rw [e_le (by omega) (by omega)]; omega)]
    obtain ⟨T1, c1, c2, c3⟩ := m_tell r (show i < 10 by omega) (AP_E (hs i (by omega)) (fun j _ => FC_4 f _))
    simp only [lq, e_mul, e_add]
    rw [c1]
    simp only [bd1_s]
    exact ih (i + 1) n T1 (by omega) (by omega) c2 (FC_t f c3)
theorem c_t64 (Te Tp Tl Td Tk Tx Tt Tv : Gp) : lX10_treaty_64 fu Te Tp Tl Td Tk Tx Tt Tv (nI 0) = some (Tl 0 2, u2 (u2 Te 2 0 (nI 0)) 2 1 (nI 0), Tp, Tl, Td, Tk, Tx, Tt, Tv) := by
  obtain ⟨n, hn⟩ := fu_ex
  have hn2 : fu = n + 99987 + 1 + 1 + 1 := hn
  rw [hn2, sX10_treaty_64]
  unfold fX10_treaty_64
  have q0 : (nI 2 ≤ nI 0) = False := by rw [e_le (by omega) (by omega)]; exact eq_false (by omega)
  have q1 : (nI 2 ≤ nI 1) = False := by rw [e_le (by omega) (by omega)]; exact eq_false (by omega)
  have q2 : (nI 2 ≤ nI 2) = True := by rw [e_le (by omega) (by omega)]; exact eq_true (by omega)
  have i0 : (ix (nI 0) 2) = True := by rw [e_ix (by omega)]; exact eq_true (by omega)
  have i1 : (ix (nI 1) 2) = True := by rw [e_ix (by omega)]; exact eq_true (by omega)
  simp only [lq, q0, i0, if_false, if_true, nar0, e_add, Nat.zero_add]
  rw [sX10_treaty_64]
  unfold fX10_treaty_64
  simp only [lq, q1, i1, if_false, if_true, nar0, e_add, Nat.reduceAdd]
  rw [sX10_treaty_64]
  unfold fX10_treaty_64
  simp only [lq, q2, if_true]
  rfl
theorem r_treaty (Tl Tk Tv : Gp) (ht : CT Tt τ) (hm : RT Tm τ) (hx : XR Tx Tm) (hd : DR d Td Tm) (hk : KR d Te Ta Tb Tm) (hp : PR Tp τ) : ∃ r Te' Tp' Tl' Td' Tk' Tx' Tt' Tv' Tn, fX10_treaty Te Tp Tl Td Tk Tx Tt Tv = some (r, Te', Tp', Tl', Td', Tk', Tx', Tt', Tv') ∧ fX11_treaty Tm = some (r, Tn) ∧ EqO 5 Tm Tn ∧ EqO 6 Tm Tn ∧ EqO 7 Tm Tn ∧ ∃ τ', CT Tt' τ' ∧ RT Tn τ' ∧ XR Tx' Tn ∧ DR d Td' Tn ∧ KR d Te' Ta Tb Tn ∧ PR Tp' τ' := by
  obtain ⟨Tv1, e1, c1⟩ := c_tlike Tv ht
  unfold fX10_treaty fX11_treaty
  rw [e1]
  simp only [bd1_s]
  rcases both_read Tl Tk hx c1 hm with ⟨Tl', Tk', Tv', Tn, f, hf, a1, a2, a3⟩ | ⟨Tl', Tk', Tv', T2, q, τ', hq, a1, a2, a3, a4, ⟨σ, s0, sq, ss⟩, a6, a7⟩
  · rw [a1, a2]
    simp only [bd4, bd2_s, m1_q, lq, e_eqm (show f < 2 ^ 31 by omega), if_false]
    refine ⟨_, Te, Tp, Tl', Td, Tk', Tx, Tt, Tv', Tn, rfl, rfl, FO_E a3 (by decide) (by decide), FO_E a3 (by decide) (by decide), FO_E a3 (by decide) (by decide), τ, ht, RT_0 hm a3, XR_E hx (FO_E a3 (by decide) (by decide)), DR_E hd (FO_E a3 (by decide) (by decide)), KR_E hk (FO_E a3 (by decide) (by decide)), hp⟩
  · rw [a1, a2]
    simp only [bd4, bd2_s, m1_q, if_true]
    obtain ⟨Tt', t1, t2⟩ := c_tlike Tt a4
    obtain ⟨Td', g1, g2, g3⟩ := c_begin Td
    have fg : fX5_forget Tp = some (u2 (u2 Tp 3 0 (nI 0)) 3 1 (nI 0)) := rfl
    rw [t1, g1, fg]
    simp only [bd1_s, lq]
    rw [c_t64, a7]
    obtain ⟨T3, T4, p1, p2, p3, p4, p5, p6⟩ := m_t13 T2 hq σ ss a6 q 0 fu T2 (by omega) (fu_gt (by omega)) (by rw [s0]; exact RT_0 hm a3) (fun _ _ _ => rfl)
    rw [p1]
    rw [sq] at p2
    have same : ∀ c j, ¬ (c = 1 ∧ j < 87) → c ≠ 2 → ¬ (c = 0 ∧ j = 3) → u2 (u2 (u2 T4 2 0 (nI 0)) 2 1 (nI 0)) 0 3 (nI 0) c j = T3 c j := fun c j h1 h2 h3 => by
      rw [u2_ap, if_neg h3, u2_ap, if_neg (by omega), u2_ap, if_neg (by omega), p6 c j h1]
    have E : ∀ n, 5 ≤ n → EqO n Tm (u2 (u2 (u2 T4 2 0 (nI 0)) 2 1 (nI 0)) 0 3 (nI 0)) := by
      intro n hn c i hc
      have k1 : ¬ (c = 1 ∧ i < 87) := fun e => by rw [e.1] at hc; unfold co at hc; rw [if_neg (by omega), if_pos rfl, if_pos e.2] at hc; omega
      have k2 : c ≠ 2 := fun e => by rw [e] at hc; have : (3 : Nat) = n := hc; omega
      have k3 : ¬ (c = 0 ∧ i = 3) := fun e => by rw [e.1, e.2] at hc; have : (4 : Nat) = n := hc; omega
      rw [same c i k1 k2 k3, p3 c i (by omega), a3 c i (by omega) (by omega)]
    refine ⟨_, _, _, _, _, _, _, _, _, _, rfl, rfl, E 5 (by omega), E 6 (by omega), E 7 (by omega), τ', t2, RT_E p2 (fun c i hc => ?_), ?_, ?_, ?_, ?_⟩
    · have k1 : ¬ (c = 1 ∧ i < 87) := fun e => by rw [e.1] at hc; unfold co at hc; rw [if_neg (by omega), if_pos rfl, if_pos e.2] at hc; omega
      have k2 : c ≠ 2 := fun e => by rw [e] at hc; have : (3 : Nat) = 1 := hc; omega
      have k3 : ¬ (c = 0 ∧ i = 3) := fun e => by rw [e.1, e.2] at hc; have : (4 : Nat) = 1 := hc; omega
      exact same c i k1 k2 k3
    · exact ⟨0, by omega, u2_same _ _ _ _, u2_same _ _ _ _, fun i hi => by omega⟩
    · have := MM_i (Ta := u2 (u2 (u2 T4 2 0 (nI 0)) 2 1 (nI 0)) 0 3 (nI 0)) p4 p5 (fun j _ => by rw [u2_ap, if_neg (by omega), u2_ap, if_neg (by omega), u2_ap, if_neg (by omega)])
      exact ⟨bgD, bgV, g2, g3, this.1, this.2, Nat.zero_le _⟩
    · refine ⟨Or.inl ⟨?_, ?_⟩, Or.inl ⟨?_, ?_⟩⟩
      · rw [u2_ap, if_neg (by omega), u2_same]
      · rw [u2_ap, if_neg (by omega), u2_ap, if_neg (by omega), u2_same]
      · rw [u2_same]
      · rw [u2_ap, if_neg (by omega), u2_same]
    · intro o ho
      left
      have o2 : o = 0 ∨ o = 1 := by omega
      rcases o2 with rfl | rfl
      · rw [u2_ap, if_neg (by omega), u2_same]
      · rw [u2_same]
end TREATY2
