/-! the relation of both objects over a run of calls -/
def RLn (d : Nat) (Tm Te Tp Td Tx Tt Ta Tb Th Tg Tr : Gp) : Prop := ∃ τ, CT Tt τ ∧ RT Tm τ ∧ DR d Td Tm ∧ KR d Te Ta Tb Tm ∧ XR Tx Tm ∧ PR Tp τ ∧ RR Tr Tm ∧ HR Th Tm ∧ LR Tg Tm
abbrev RecT : Type := Gp → Gp → Gp → Gp → Gp → Gp → Gp → Gp → Gp → Gp → Gp → Gp → Gp → Gp → Gp → Int32 → Option Int32
def LSt (d : Nat) (rec : RecT) (i : Nat) (r : Option Int32) : Prop := ∃ Tm Te Tp Tl Td Tk Tx Tt Tv Ta Tb Tn Th Tg Tr, r = rec Tm Te Tp Tl Td Tk Tx Tt Tv Ta Tb Tn Th Tg Tr (nI (i + 6)) ∧ RLn (d + 99) Tm Te Tp Td Tx Tt Ta Tb Th Tg Tr
section STEP
variable {d i : Nat} {rec : RecT} {Tm Te Tp Tl Td Tk Tx Tt Tv Ta Tb Tn Th Tg Tr : Gp} {x : Option Int32}
theorem DR_mono {e : Nat} (h : DR d Td Tm) (hde : d ≤ e) : DR e Td Tm := by
  obtain ⟨δ, ν, a, b, m0, m1, hd⟩ := h
  exact ⟨δ, ν, a, b, m0, m1, by omega⟩
theorem KR_mono {e : Nat} (h : KR d Te Ta Tb Tm) (hde : d ≤ e) : KR e Te Ta Tb Tm := ⟨KS_mono h.1 hde, KS_mono h.2 hde⟩
theorem b11 {F G : Option Int32} {k : Option Int32} {r : Int32} (e1 : F = some r) (e2 : G = some r) : bd1 F (fun a => bd1 G (fun b => if a = b then k else x)) = k := by
  rw [e1, e2]
  simp only [bd1_s, if_true]
theorem b22 {F G : Option (Int32 × Gp)} {k : Gp → Gp → Option Int32} {r : Int32} {A B : Gp} (e1 : F = some (r, A)) (e2 : G = some (r, B)) : bd2 F (fun a T => bd2 G (fun b T' => if a = b then k T T' else x)) = k A B := by
  rw [e1, e2]
  simp only [bd2_s, if_true]
theorem b42 {F : Option (Int32 × Gp × Gp × Gp)} {G : Option (Int32 × Gp)} {k : Gp → Gp → Gp → Gp → Option Int32} {r : Int32} {A1 A2 A3 B : Gp} (e1 : F = some (r, A1, A2, A3)) (e2 : G = some (r, B)) : bd4 F (fun a T1 T2 T3 => bd2 G (fun b T' => if a = b then k T1 T2 T3 T' else x)) = k A1 A2 A3 B := by
  rw [e1, e2]
  simp only [bd4_s, bd2_s, if_true]
theorem b92 {F : Option (Int32 × Gp × Gp × Gp × Gp × Gp × Gp × Gp × Gp)} {G : Option (Int32 × Gp)} {k : Gp → Gp → Gp → Gp → Gp → Gp → Gp → Gp → Gp → Option Int32} {r : Int32} {A1 A2 A3 A4 A5 A6 A7 A8 B : Gp} (e1 : F = some (r, A1, A2, A3, A4, A5, A6, A7, A8)) (e2 : G = some (r, B)) : bd9 F (fun a T1 T2 T3 T4 T5 T6 T7 T8 => bd2 G (fun b T' => if a = b then k T1 T2 T3 T4 T5 T6 T7 T8 T' else x)) = k A1 A2 A3 A4 A5 A6 A7 A8 B := by
  rw [e1, e2]
  simp only [bd9, bd2_s, if_true]
theorem RLn_m (h : RLn d Tm Te Tp Td Tx Tt Ta Tb Th Tg Tr) : RLn (d + 99) Tm Te Tp Td Tx Tt Ta Tb Th Tg Tr := by
  obtain ⟨τ, ht, hm, hd, hk, hx, hp, hr, hh, hl⟩ := h
  exact ⟨τ, ht, hm, DR_mono hd (by omega), KR_mono hk (by omega), hx, hp, hr, hh, hl⟩
theorem RLn_0 {Tm' : Gp} (h : RLn d Tm Te Tp Td Tx Tt Ta Tb Th Tg Tr) (f : FO 0 Tm Tm') : RLn d Tm' Te Tp Td Tx Tt Ta Tb Th Tg Tr := by
  obtain ⟨τ, ht, hm, hd, hk, hx, hp, hr, hh, hl⟩ := h
  exact ⟨τ, ht, RT_0 hm f, DR_E hd (FO_E f (by decide) (by decide)), KR_E hk (FO_E f (by decide) (by decide)), XR_E hx (FO_E f (by decide) (by decide)), hp, RR_E hr (FO_E f (by decide) (by decide)), HR_E hh (FO_E f (by decide) (by decide)), LR_E hl (FO_E f (by decide) (by decide))⟩
theorem S_write (h : RLn d Tm Te Tp Td Tx Tt Ta Tb Th Tg Tr) (a : Int64) (b : Int32) : LSt d rec i (bd2 (fX10_write Te Tx a b) (fun r T => bd2 (fX11_write Tm a b) (fun r' T' => if r = r' then rec T' Te Tp Tl Td Tk T Tt Tv Ta Tb Tn Th Tg Tr (nI (i + 6)) else x))) := by
  obtain ⟨τ, ht, hm, hd, hk, hx, hp, hr, hh, hl⟩ := h
  obtain ⟨r, A, B, e1, e2, f, n⟩ := r_write Te hx a b
  exact ⟨_, _, _, _, _, _, _, _, _, _, _, _, _, _, _, b22 e1 e2, τ, ht, RT_E hm (FO_E f (by decide) (by decide)), DR_mono (DR_E hd (FO_E f (by decide) (by decide))) (by omega), KR_mono (KR_E hk (FO_E f (by decide) (by decide))) (by omega), n, hp, RR_E hr (FO_E f (by decide) (by decide)), HR_E hh (FO_E f (by decide) (by decide)), LR_E hl (FO_E f (by decide) (by decide))⟩
theorem S_erase (h : RLn d Tm Te Tp Td Tx Tt Ta Tb Th Tg Tr) : LSt d rec i (bd2 (fX10_erase Te Tx) (fun r T => bd2 (fX11_erase Tm) (fun r' T' => if r = r' then rec T' Te Tp Tl Td Tk T Tt Tv Ta Tb Tn Th Tg Tr (nI (i + 6)) else x))) := by
  obtain ⟨τ, ht, hm, hd, hk, hx, hp, hr, hh, hl⟩ := h
  obtain ⟨r, A, B, e1, e2, f, n⟩ := r_erase Te hx
  exact ⟨_, _, _, _, _, _, _, _, _, _, _, _, _, _, _, b22 e1 e2, τ, ht, RT_E hm (FO_E f (by decide) (by decide)), DR_mono (DR_E hd (FO_E f (by decide) (by decide))) (by omega), KR_mono (KR_E hk (FO_E f (by decide) (by decide))) (by omega), n, hp, RR_E hr (FO_E f (by decide) (by decide)), HR_E hh (FO_E f (by decide) (by decide)), LR_E hl (FO_E f (by decide) (by decide))⟩
theorem S_fault (h : RLn d Tm Te Tp Td Tx Tt Ta Tb Th Tg Tr) : LSt d rec i (bd4 (fX10_fault Te Tl Tk Tx Tt Tv) (fun r T1 T2 T3 => bd2 (fX11_fault Tm) (fun r' T' => if r = r' then rec T' Te Tp T1 Td T2 Tx Tt T3 Ta Tb Tn Th Tg Tr (nI (i + 6)) else x))) := by
  have h' := h
  obtain ⟨τ, ht, hm, hd, hk, hx, hp, hr, hh, hl⟩ := h
  obtain ⟨r, A1, A2, A3, B, e1, e2, f⟩ := r_fault Te Tl Tk Tv ht hm hx
  exact ⟨_, _, _, _, _, _, _, _, _, _, _, _, _, _, _, b42 e1 e2, RLn_m (RLn_0 h' f)⟩
theorem S_treaty (h : RLn d Tm Te Tp Td Tx Tt Ta Tb Th Tg Tr) : LSt d rec i (bd9 (fX10_treaty Te Tp Tl Td Tk Tx Tt Tv) (fun r T1 T2 T3 T4 T5 T6 T7 T8 => bd2 (fX11_treaty Tm) (fun r' T' => if r = r' then rec T' T1 T2 T3 T4 T5 T6 T7 T8 Ta Tb Tn Th Tg Tr (nI (i + 6)) else x))) := by
  obtain ⟨τ, ht, hm, hd, hk, hx, hp, hr, hh, hl⟩ := h
  obtain ⟨r, A1, A2, A3, A4, A5, A6, A7, A8, B, e1, e2, f5, f6, f7, τ', n1, n2, n3, n4, n5, n6⟩ := r_treaty Tl Tk Tv ht hm hx hd hk hp
  exact ⟨_, _, _, _, _, _, _, _, _, _, _, _, _, _, _, b92 e1 e2, τ', n1, n2, DR_mono n4 (by omega), KR_mono n5 (by omega), n3, n6, RR_E hr f7, HR_E hh f5, LR_E hl f6⟩
theorem S_work (h : RLn d Tm Te Tp Td Tx Tt Ta Tb Th Tg Tr) (a b : Int32) : LSt d rec i (bd1 (fX10_work Te Tt a b) (fun r => bd1 (fX11_work Tm a b) (fun r' => if r = r' then rec Tm Te Tp Tl Td Tk Tx Tt Tv Ta Tb Tn Th Tg Tr (nI (i + 6)) else x))) := by
  have h' := h
  obtain ⟨τ, ht, hm, hd, hk, hx, hp, hr, hh, hl⟩ := h
  obtain ⟨r, e1, e2⟩ := r_work Te ht hm a b
  exact ⟨_, _, _, _, _, _, _, _, _, _, _, _, _, _, _, b11 e1 e2, RLn_m h'⟩
theorem S_meant (h : RLn d Tm Te Tp Td Tx Tt Ta Tb Th Tg Tr) (a b c e : Int32) : LSt d rec i (bd1 (fX10_meant Te Tt a b c e) (fun r => bd1 (fX11_meant Tm a b c e) (fun r' => if r = r' then rec Tm Te Tp Tl Td Tk Tx Tt Tv Ta Tb Tn Th Tg Tr (nI (i + 6)) else x))) := by
  have h' := h
  obtain ⟨τ, ht, hm, hd, hk, hx, hp, hr, hh, hl⟩ := h
  obtain ⟨r, e1, e2⟩ := r_meant Te ht hm a b c e
  exact ⟨_, _, _, _, _, _, _, _, _, _, _, _, _, _, _, b11 e1 e2, RLn_m h'⟩
theorem RLn_2 {B A : Gp} (h : RLn d Tm Te Tp Td Tx Tt Ta Tb Th Tg Tr) (f : FO 2 Tm B) {e : Nat} (hde : d ≤ e) (n : DR e A B) : RLn e B Te Tp A Tx Tt Ta Tb Th Tg Tr := by
  obtain ⟨τ, ht, hm, hd, hk, hx, hp, hr, hh, hl⟩ := h
  exact ⟨τ, ht, RT_E hm (FO_E f (by decide) (by decide)), n, KR_mono (KR_E hk (FO_E f (by decide) (by decide))) hde, XR_E hx (FO_E f (by decide) (by decide)), hp, RR_E hr (FO_E f (by decide) (by decide)), HR_E hh (FO_E f (by decide) (by decide)), LR_E hl (FO_E f (by decide) (by decide))⟩
theorem S_done (h : RLn d Tm Te Tp Td Tx Tt Ta Tb Th Tg Tr) (a b c e : Int32) : LSt d rec i (bd2 (fX10_done Te Td Tt a b c e) (fun r T => bd2 (fX11_done Tm a b c e) (fun r' T' => if r = r' then rec T' Te Tp Tl T Tk Tx Tt Tv Ta Tb Tn Th Tg Tr (nI (i + 6)) else x))) := by
  have h' := h
  obtain ⟨τ, ht, hm, hd, hk, hx, hp, hr, hh, hl⟩ := h
  obtain ⟨r, A, B, e1, e2, f, n⟩ := r_done Te ht hm hd a b c e
  exact ⟨_, _, _, _, _, _, _, _, _, _, _, _, _, _, _, b22 e1 e2, RLn_m (RLn_2 h' f (Nat.le_refl _) n)⟩
theorem S_ill (h : RLn d Tm Te Tp Td Tx Tt Ta Tb Th Tg Tr) (a b c : Int32) : LSt d rec i (bd2 (fX10_ill Te Td Tt a b c) (fun r T => bd2 (fX11_ill Tm a b c) (fun r' T' => if r = r' then rec T' Te Tp Tl T Tk Tx Tt Tv Ta Tb Tn Th Tg Tr (nI (i + 6)) else x))) := by
  have h' := h
  obtain ⟨τ, ht, hm, hd, hk, hx, hp, hr, hh, hl⟩ := h
  obtain ⟨r, A, B, e1, e2, f, n⟩ := r_ill Te ht hm hd a b c
  exact ⟨_, _, _, _, _, _, _, _, _, _, _, _, _, _, _, b22 e1 e2, RLn_m (RLn_2 h' f (Nat.le_refl _) n)⟩
theorem S_days (h : RLn d Tm Te Tp Td Tx Tt Ta Tb Th Tg Tr) (hd2 : d + 99 < 2 ^ 20) (a : Int32) : LSt d rec i (bd2 (fX10_days Te Td Tt a) (fun r T => bd2 (fX11_days Tm a) (fun r' T' => if r = r' then rec T' Te Tp Tl T Tk Tx Tt Tv Ta Tb Tn Th Tg Tr (nI (i + 6)) else x))) := by
  have h' := h
  obtain ⟨τ, ht, hm, hd, hk, hx, hp, hr, hh, hl⟩ := h
  obtain ⟨r, A, B, e1, e2, f, n⟩ := r_days Te ht hm hd hd2 a
  exact ⟨_, _, _, _, _, _, _, _, _, _, _, _, _, _, _, b22 e1 e2, RLn_2 h' f (by omega) n⟩
theorem S_person (h : RLn d Tm Te Tp Td Tx Tt Ta Tb Th Tg Tr) (a b c : Int32) : LSt d rec i (bd1 (fX10_person Te Td Tt a b c) (fun r => bd1 (fX11_person Tm a b c) (fun r' => if r = r' then rec Tm Te Tp Tl Td Tk Tx Tt Tv Ta Tb Tn Th Tg Tr (nI (i + 6)) else x))) := by
  have h' := h
  obtain ⟨τ, ht, hm, hd, hk, hx, hp, hr, hh, hl⟩ := h
  obtain ⟨r, e1, e2⟩ := r_person Te ht hm hd a b c
  exact ⟨_, _, _, _, _, _, _, _, _, _, _, _, _, _, _, b11 e1 e2, RLn_m h'⟩
theorem S_bread (h : RLn d Tm Te Tp Td Tx Tt Ta Tb Th Tg Tr) (a : Int32) : LSt d rec i (bd1 (fX10_bread Te Td a) (fun r => bd1 (fX11_bread Tm a) (fun r' => if r = r' then rec Tm Te Tp Tl Td Tk Tx Tt Tv Ta Tb Tn Th Tg Tr (nI (i + 6)) else x))) := by
  have h' := h
  obtain ⟨τ, ht, hm, hd, hk, hx, hp, hr, hh, hl⟩ := h
  obtain ⟨r, e1, e2⟩ := r_bread Te hd a
  exact ⟨_, _, _, _, _, _, _, _, _, _, _, _, _, _, _, b11 e1 e2, RLn_m h'⟩
theorem S_breaches (h : RLn d Tm Te Tp Td Tx Tt Ta Tb Th Tg Tr) (a : Int32) : LSt d rec i (bd1 (fX10_breaches Te Td Tt a) (fun r => bd1 (fX11_breaches Tm a) (fun r' => if r = r' then rec Tm Te Tp Tl Td Tk Tx Tt Tv Ta Tb Tn Th Tg Tr (nI (i + 6)) else x))) := by
  have h' := h
  obtain ⟨τ, ht, hm, hd, hk, hx, hp, hr, hh, hl⟩ := h
  obtain ⟨r, e1, e2⟩ := r_breaches Te ht hm hd a
  exact ⟨_, _, _, _, _, _, _, _, _, _, _, _, _, _, _, b11 e1 e2, RLn_m h'⟩
theorem S_as (h : RLn d Tm Te Tp Td Tx Tt Ta Tb Th Tg Tr) (a b : Int32) : LSt d rec i (bd1 (fX10_as Te Td Tt a b) (fun r => bd1 (fX11_as Tm a b) (fun r' => if r = r' then rec Tm Te Tp Tl Td Tk Tx Tt Tv Ta Tb Tn Th Tg Tr (nI (i + 6)) else x))) := by
  have h' := h
  obtain ⟨τ, ht, hm, hd, hk, hx, hp, hr, hh, hl⟩ := h
  obtain ⟨r, e1, e2⟩ := r_as Te ht hm hd a b
  exact ⟨_, _, _, _, _, _, _, _, _, _, _, _, _, _, _, b11 e1 e2, RLn_m h'⟩
theorem S_plan (h : RLn d Tm Te Tp Td Tx Tt Ta Tb Th Tg Tr) (a b c : Int32) : LSt d rec i (bd2 (fX10_plan Te Tp Tt a b c) (fun r T => bd2 (fX11_plan Tm a b c) (fun r' T' => if r = r' then rec T' Te T Tl Td Tk Tx Tt Tv Ta Tb Tn Th Tg Tr (nI (i + 6)) else x))) := by
  have h' := h
  obtain ⟨τ, ht, hm, hd, hk, hx, hp, hr, hh, hl⟩ := h
  obtain ⟨r, A, B, e1, e2, f, n⟩ := r_plan Te ht hm hp a b c
  have hq := RLn_m (RLn_0 (⟨τ, ht, hm, hd, hk, hx, n, hr, hh, hl⟩ : RLn d Tm Te A Td Tx Tt Ta Tb Th Tg Tr) f)
  exact ⟨_, _, _, _, _, _, _, _, _, _, _, _, _, _, _, b22 e1 e2, hq⟩
theorem S_planned (h : RLn d Tm Te Tp Td Tx Tt Ta Tb Th Tg Tr) (a b c e g : Int32) : LSt d rec i (bd2 (fX10_planned Te Tp Tt a b c e g) (fun r T => bd2 (fX11_planned Tm a b c e g) (fun r' T' => if r = r' then rec T' Te T Tl Td Tk Tx Tt Tv Ta Tb Tn Th Tg Tr (nI (i + 6)) else x))) := by
  have h' := h
  obtain ⟨τ, ht, hm, hd, hk, hx, hp, hr, hh, hl⟩ := h
  obtain ⟨r, A, B, e1, e2, f, n⟩ := r_planned Te ht hm hp a b c e g
  have hq := RLn_m (RLn_0 (⟨τ, ht, hm, hd, hk, hx, n, hr, hh, hl⟩ : RLn d Tm Te A Td Tx Tt Ta Tb Th Tg Tr) f)
  exact ⟨_, _, _, _, _, _, _, _, _, _, _, _, _, _, _, b22 e1 e2, hq⟩
theorem S_news (h : RLn d Tm Te Tp Td Tx Tt Ta Tb Th Tg Tr) (a b c : Int32) (fl : Bool) : LSt d rec i (bd2 (fX10_news Te Tn a b c (bI fl)) (fun r T => bd2 (fX11_news Tm a b c (bI fl)) (fun r' T' => if r = r' then rec T' Te Tp Tl Td Tk Tx Tt Tv Ta Tb T Th Tg Tr (nI (i + 6)) else x))) := by
  obtain ⟨r, A, B, e1, e2, f⟩ := r_news (Tn := Tn) (Tm := Tm) Te a b c fl
  exact ⟨_, _, _, _, _, _, _, _, _, _, _, _, _, _, _, b22 e1 e2, RLn_m (RLn_0 h f)⟩
theorem RLn_5 {B A : Gp} (h : RLn d Tm Te Tp Td Tx Tt Ta Tb Th Tg Tr) (f : FO 5 Tm B) (n : HR A B) : RLn d B Te Tp Td Tx Tt Ta Tb A Tg Tr := by
  obtain ⟨τ, ht, hm, hd, hk, hx, hp, hr, hh, hl⟩ := h
  exact ⟨τ, ht, RT_E hm (FO_E f (by decide) (by decide)), DR_E hd (FO_E f (by decide) (by decide)), KR_E hk (FO_E f (by decide) (by decide)), XR_E hx (FO_E f (by decide) (by decide)), hp, RR_E hr (FO_E f (by decide) (by decide)), n, LR_E hl (FO_E f (by decide) (by decide))⟩
theorem RLn_6 {B A : Gp} (h : RLn d Tm Te Tp Td Tx Tt Ta Tb Th Tg Tr) (f : FO 6 Tm B) (n : LR A B) : RLn d B Te Tp Td Tx Tt Ta Tb Th A Tr := by
  obtain ⟨τ, ht, hm, hd, hk, hx, hp, hr, hh, hl⟩ := h
  exact ⟨τ, ht, RT_E hm (FO_E f (by decide) (by decide)), DR_E hd (FO_E f (by decide) (by decide)), KR_E hk (FO_E f (by decide) (by decide)), XR_E hx (FO_E f (by decide) (by decide)), hp, RR_E hr (FO_E f (by decide) (by decide)), HR_E hh (FO_E f (by decide) (by decide)), n⟩
theorem RLn_7 {B A : Gp} (h : RLn d Tm Te Tp Td Tx Tt Ta Tb Th Tg Tr) (f : FO 7 Tm B) (n : RR A B) : RLn d B Te Tp Td Tx Tt Ta Tb Th Tg A := by
  obtain ⟨τ, ht, hm, hd, hk, hx, hp, hr, hh, hl⟩ := h
  exact ⟨τ, ht, RT_E hm (FO_E f (by decide) (by decide)), DR_E hd (FO_E f (by decide) (by decide)), KR_E hk (FO_E f (by decide) (by decide)), XR_E hx (FO_E f (by decide) (by decide)), hp, n, HR_E hh (FO_E f (by decide) (by decide)), LR_E hl (FO_E f (by decide) (by decide))⟩
theorem S_harm (h : RLn d Tm Te Tp Td Tx Tt Ta Tb Th Tg Tr) (a b c : Int32) : LSt d rec i (bd2 (fX10_harm Te Tt Th a b c) (fun r T => bd2 (fX11_harm Tm a b c) (fun r' T' => if r = r' then rec T' Te Tp Tl Td Tk Tx Tt Tv Ta Tb Tn T Tg Tr (nI (i + 6)) else x))) := by
  have h' := h
  obtain ⟨τ, ht, hm, hd, hk, hx, hp, hr, hh, hl⟩ := h
  obtain ⟨r, A, B, e1, e2, f, n⟩ := r_harm Te ht hm hh a b c
  exact ⟨_, _, _, _, _, _, _, _, _, _, _, _, _, _, _, b22 e1 e2, RLn_m (RLn_5 h' f n)⟩
theorem S_anew (h : RLn d Tm Te Tp Td Tx Tt Ta Tb Th Tg Tr) (a : Int32) : LSt d rec i (bd2 (fX10_anew Te Tt Th a) (fun r T => bd2 (fX11_anew Tm a) (fun r' T' => if r = r' then rec T' Te Tp Tl Td Tk Tx Tt Tv Ta Tb Tn T Tg Tr (nI (i + 6)) else x))) := by
  have h' := h
  obtain ⟨τ, ht, hm, hd, hk, hx, hp, hr, hh, hl⟩ := h
  obtain ⟨r, A, B, e1, e2, f, n⟩ := r_anew Te ht hm hh a
  exact ⟨_, _, _, _, _, _, _, _, _, _, _, _, _, _, _, b22 e1 e2, RLn_m (RLn_5 h' (FO_w f) n)⟩
theorem S_forced (h : RLn d Tm Te Tp Td Tx Tt Ta Tb Th Tg Tr) (a b : Int32) : LSt d rec i (bd2 (fX10_forced Te Tt Th a b) (fun r T => bd2 (fX11_forced Tm a b) (fun r' T' => if r = r' then rec T' Te Tp Tl Td Tk Tx Tt Tv Ta Tb Tn T Tg Tr (nI (i + 6)) else x))) := by
  have h' := h
  obtain ⟨τ, ht, hm, hd, hk, hx, hp, hr, hh, hl⟩ := h
  obtain ⟨r, A, B, e1, e2, f, n⟩ := r_forced Te ht hm hh a b
  exact ⟨_, _, _, _, _, _, _, _, _, _, _, _, _, _, _, b22 e1 e2, RLn_m (RLn_5 h' (FO_w f) n)⟩
theorem S_like (h : RLn d Tm Te Tp Td Tx Tt Ta Tb Th Tg Tr) (a b c e : Int32) : LSt d rec i (bd2 (fX10_like Te Tt Tg a b c e) (fun r T => bd2 (fX11_like Tm a b c e) (fun r' T' => if r = r' then rec T' Te Tp Tl Td Tk Tx Tt Tv Ta Tb Tn Th T Tr (nI (i + 6)) else x))) := by
  have h' := h
  obtain ⟨τ, ht, hm, hd, hk, hx, hp, hr, hh, hl⟩ := h
  obtain ⟨r, A, B, e1, e2, f, n⟩ := r_like Te ht hm hl a b c e
  exact ⟨_, _, _, _, _, _, _, _, _, _, _, _, _, _, _, b22 e1 e2, RLn_m (RLn_6 h' f n)⟩
theorem S_fours (h : RLn d Tm Te Tp Td Tx Tt Ta Tb Th Tg Tr) (a : Int32) : LSt d rec i (bd2 (fX10_fours Te Tt Tg a) (fun r T => bd2 (fX11_fours Tm a) (fun r' T' => if r = r' then rec T' Te Tp Tl Td Tk Tx Tt Tv Ta Tb Tn Th T Tr (nI (i + 6)) else x))) := by
  have h' := h
  obtain ⟨τ, ht, hm, hd, hk, hx, hp, hr, hh, hl⟩ := h
  obtain ⟨r, A, B, e1, e2, f, n⟩ := r_fours Te ht hm hl a
  exact ⟨_, _, _, _, _, _, _, _, _, _, _, _, _, _, _, b22 e1 e2, RLn_m (RLn_6 h' (FO_w f) n)⟩
theorem S_record (h : RLn d Tm Te Tp Td Tx Tt Ta Tb Th Tg Tr) (fl : Bool) : LSt d rec i (bd2 (fX10_record Te Tr (bI fl)) (fun r T => bd2 (fX11_record Tm (bI fl)) (fun r' T' => if r = r' then rec T' Te Tp Tl Td Tk Tx Tt Tv Ta Tb Tn Th Tg T (nI (i + 6)) else x))) := by
  have h' := h
  obtain ⟨τ, ht, hm, hd, hk, hx, hp, hr, hh, hl⟩ := h
  obtain ⟨r, A, B, e1, e2, f, n⟩ := r_record Te hr fl
  exact ⟨_, _, _, _, _, _, _, _, _, _, _, _, _, _, _, b22 e1 e2, RLn_m (RLn_7 h' f n)⟩
theorem S_burn (h : RLn d Tm Te Tp Td Tx Tt Ta Tb Th Tg Tr) : LSt d rec i (bd2 (fX10_burn Te Tr) (fun r T => bd2 (fX11_burn Tm) (fun r' T' => if r = r' then rec T' Te Tp Tl Td Tk Tx Tt Tv Ta Tb Tn Th Tg T (nI (i + 6)) else x))) := by
  have h' := h
  obtain ⟨τ, ht, hm, hd, hk, hx, hp, hr, hh, hl⟩ := h
  obtain ⟨r, A, B, e1, e2, f, n⟩ := r_burn Te hr
  exact ⟨_, _, _, _, _, _, _, _, _, _, _, _, _, _, _, b22 e1 e2, RLn_m (RLn_7 h' f n)⟩
theorem S_slips (h : RLn d Tm Te Tp Td Tx Tt Ta Tb Th Tg Tr) (a b c : Int32) : LSt d rec i (bd2 (fX10_slips Te Tr a b c) (fun r T => bd2 (fX11_slips Tm a b c) (fun r' T' => if r = r' then rec T' Te Tp Tl Td Tk Tx Tt Tv Ta Tb Tn Th Tg T (nI (i + 6)) else x))) := by
  have h' := h
  obtain ⟨τ, ht, hm, hd, hk, hx, hp, hr, hh, hl⟩ := h
  obtain ⟨r, A, B, e1, e2, f, n⟩ := r_slips Te hr a b c
  exact ⟨_, _, _, _, _, _, _, _, _, _, _, _, _, _, _, b22 e1 e2, RLn_m (RLn_7 h' (FO_w f) n)⟩
theorem S_keep (h : RLn d Tm Te Tp Td Tx Tt Ta Tb Th Tg Tr) (a : Int32) : LSt d rec i (bd4 (fX10_keep Te Td Ta Tb a) (fun r T1 T2 T3 => bd2 (fX11_keep Tm a) (fun r' T' => if r = r' then rec T' T1 Tp Tl Td Tk Tx Tt Tv T2 T3 Tn Th Tg Tr (nI (i + 6)) else x))) := by
  obtain ⟨τ, ht, hm, hd, hk, hx, hp, hr, hh, hl⟩ := h
  obtain ⟨r, A1, A2, A3, B, e1, e2, f, n⟩ := r_keep hd hk a
  exact ⟨_, _, _, _, _, _, _, _, _, _, _, _, _, _, _, b42 e1 e2, τ, ht, RT_E hm (FO_E f (by decide) (by decide)), DR_mono (DR_E hd (FO_E f (by decide) (by decide))) (by omega), KR_mono n (by omega), XR_E hx (FO_E f (by decide) (by decide)), hp, RR_E hr (FO_E f (by decide) (by decide)), HR_E hh (FO_E f (by decide) (by decide)), LR_E hl (FO_E f (by decide) (by decide))⟩
theorem S_back (h : RLn d Tm Te Tp Td Tx Tt Ta Tb Th Tg Tr) (a : Int32) : LSt d rec i (bd2 (fX10_back Te Td Ta Tb a) (fun r T => bd2 (fX11_back Tm a) (fun r' T' => if r = r' then rec T' Te Tp Tl T Tk Tx Tt Tv Ta Tb Tn Th Tg Tr (nI (i + 6)) else x))) := by
  have h' := h
  obtain ⟨τ, ht, hm, hd, hk, hx, hp, hr, hh, hl⟩ := h
  obtain ⟨r, A, B, e1, e2, f, n⟩ := r_back hd hk a
  exact ⟨_, _, _, _, _, _, _, _, _, _, _, _, _, _, _, b22 e1 e2, RLn_m (RLn_2 h' f (Nat.le_refl _) n)⟩
theorem S_count (h : RLn d Tm Te Tp Td Tx Tt Ta Tb Th Tg Tr) (a : Int32) : LSt d rec i (bd1 (fX10_count Te Td Tx Tt Tr a) (fun r => bd1 (fX11_count Tm a) (fun r' => if r = r' then rec Tm Te Tp Tl Td Tk Tx Tt Tv Ta Tb Tn Th Tg Tr (nI (i + 6)) else x))) := by
  have h' := h
  obtain ⟨τ, ht, hm, hd, hk, hx, hp, hr, hh, hl⟩ := h
  obtain ⟨len, -, x1, x2, -⟩ := hx
  obtain ⟨len', -, y1, y2, -⟩ := hr
  obtain ⟨r, e1, e2⟩ := r_count (Te := Te) ht hm hd Tx Tr (by rw [y1, y2]) (by rw [x1, x2]) a
  exact ⟨_, _, _, _, _, _, _, _, _, _, _, _, _, _, _, b11 e1 e2, RLn_m h'⟩
end STEP
