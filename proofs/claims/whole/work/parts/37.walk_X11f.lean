set_option maxRecDepth 100000 in
set_option maxHeartbeats 4000000 in
theorem kX11_choose_45 {l : Launch} {g : evG} {p : Program} {e : Env} {s : State} {m : MethodId} {args : Array Value} {below : List Frame} {meth : Method} {c : Code} {A : Nat → Prop} {zm : Nat → Nat} {r : Int32} {om : Gp} (C : ctx g p s m args meth c RX11 cX11_choose 7 (some .boolean) A) {rec28 : Gp → Int32 → Int32 → Int32 → Option (Int32 × Gp)} {rec45 : Gp → Int32 → Int32 → Int32 → Int32 → Option (Int32 × Gp)} (hr28 : ∀ (Tm : Gp) (x1 : Int32) (x3 : Int32) (x4 : Int32) (H : Heap) (locs : List Loc) (ls : Array Slot), rec28 Tm x1 x3 x4 = some (r, om) → wl g A s.heap (gcM g zm Tm) H locs → lv_has ls 7 [(0, .ref (zm 0)), (1, .int x1), (3, .int x3), (4, .int x4)] → W p l e (rmK 4 108) s m args below meth c H locs 0 0 (MQ below (Qi g A (gcM g zm om) r) args s 0 0 A) (F0 m 28 ls [])) (hr45 : ∀ (Tm : Gp) (x1 : Int32) (x3 : Int32) (x4 : Int32) (x5 : Int32) (H : Heap) (locs : List Loc) (ls : Array Slot), rec45 Tm x1 x3 x4 x5 = some (r, om) → wl g A s.heap (gcM g zm Tm) H locs → lv_has ls 7 [(0, .ref (zm 0)), (1, .int x1), (3, .int x3), (4, .int x4), (5, .int x5)] → W p l e (rmK 4 108) s m args below meth c H locs 0 0 (MQ below (Qi g A (gcM g zm om) r) args s 0 0 A) (F0 m 45 ls [])) {Tm : Gp} {x1 : Int32} {x3 : Int32} {x4 : Int32} {x5 : Int32} {H : Heap} {locs : List Loc} {ls : Array Slot} (hf : fX11_choose_45 rec28 rec45 Tm x1 x3 x4 x5 = some (r, om)) (hw : wl g A s.heap (gcM g zm Tm) H locs) (hl : lv_has ls 7 [(0, .ref (zm 0)), (1, .int x1), (3, .int x3), (4, .int x4), (5, .int x5)]) : W p l e (rmK 4 108) s m args below meth c H locs 0 0 (MQ below (Qi g A (gcM g zm om) r) args s 0 0 A) (F0 m 45 ls []) := by
  obtain ⟨hx, hb, hml, hown, hts, -⟩ := id C
  unfold fX11_choose_45 at hf
  refine lv_aload_n hx hb dX11_choose_45 rfl (lv_at hl 0 rfl) ?_
  refine lv_iload hx hb dX11_choose_46 (lv_at hl 3 rfl) ?_
  refine lv_iload_n hx hb dX11_choose_48 rfl (lv_at hl 1 rfl) ?_
  refine lv_iload_n hx hb dX11_choose_49 rfl (lv_at hl 2 rfl) ?_
  refine lv_iload hx hb dX11_choose_50 (lv_at hl 4 rfl) ?_
  refine lv_bipush (v := (6 : Int32)) hx hb dX11_choose_52 rfl ?_
  refine lv_idiv hx hb dX11_choose_54 (by decide) ?_
  refine lv_iload hx hb dX11_choose_55 (lv_at hl 4 rfl) ?_
  refine lv_bipush (v := (6 : Int32)) hx hb dX11_choose_57 rfl ?_
  refine lv_irm hx hb dX11_choose_59 (by decide) ?_
  obtain ⟨r1, hc2, hf⟩ := bd1_e hf
  refine r_callVi0 C hw (c_X11_worthBy (zm := zm) hc2) md_X11_worthBy [0, 1, 2, 3, 4, 5, 6, 7, 8, 9, 10, 11, 12, 13, 14, 15, 16, 17, 18] rfl rfl q5_194 0 rfl cf_X11.1 ⟨Nat.le_of_ble_eq_true rfl, Nat.le_of_ble_eq_true rfl⟩ ⟨Nat.zero_le _, Nat.zero_le _⟩ hl.1 rfl rfl (Nat.le_of_ble_eq_true rfl) dX11_choose_60 (fun H locs hw => ?_)
  refine lv_aload_n hx hb dX11_choose_63 rfl (lv_at hl 0 rfl) ?_
  refine r_get C hw 0 rfl cf_X11 19 (by decide) q4_192 (v := .ref (zm 9)) rfl dX11_choose_64 ?_
  refine lv_sipush (v := (201 : Int32)) hx hb dX11_choose_67 rfl ?_
  refine lv_iload hx hb dX11_choose_70 (lv_at hl 3 rfl) ?_
  refine lv_imul hx hb dX11_choose_72 ?_
  refine lv_iload_n hx hb dX11_choose_73 rfl (lv_at hl 2 rfl) ?_
  refine lv_iadd hx hb dX11_choose_74 ?_
  obtain ⟨hi3, hf⟩ := it_g hf
  refine r_iald C hw 9 (f := (Tm 9)) rfl hi3 dX11_choose_75 ?_
  refine lv_icmp_eq (tgt := 85) hx hb dX11_choose_76 (by decide) (fun hc9 => ?_) (fun hc9 => ?_)
  · have hf := it_p hf hc9
    refine lv_aload_n hx hb dX11_choose_85 rfl (lv_at hl 0 rfl) ?_
    refine r_get C hw 0 rfl cf_X11 20 (by decide) q4_193 (v := .ref (zm 10)) rfl dX11_choose_86 ?_
    refine lv_iconst (v := (2 : Int32)) hx hb dX11_choose_89 rfl ?_
    refine lv_iload hx hb dX11_choose_90 (lv_at hl 3 rfl) ?_
    refine lv_imul hx hb dX11_choose_92 ?_
    refine lv_iload hx hb dX11_choose_93 (lv_at hl 4 rfl) ?_
    refine lv_bipush (v := (6 : Int32)) hx hb dX11_choose_95 rfl ?_
    refine lv_idiv hx hb dX11_choose_97 (by decide) ?_
    obtain ⟨hi4, hf⟩ := it_g hf
    refine r_iast C hw 10 (f := (Tm 10)) rfl hi4 (ws' := (gcM g zm (u2 Tm 10 ((2 : Int32) * x4).toNatClampNeg (x5 / (6 : Int32))))) gcM_a10 dX11_choose_98 (fun H locs hw => ?_)
    refine lv_aload_n hx hb dX11_choose_99 rfl (lv_at hl 0 rfl) ?_
    refine r_get C hw 0 rfl cf_X11 20 (by decide) q4_193 (v := .ref (zm 10)) rfl dX11_choose_100 ?_
    refine lv_iconst (v := (2 : Int32)) hx hb dX11_choose_103 rfl ?_
    refine lv_iload hx hb dX11_choose_104 (lv_at hl 3 rfl) ?_
    refine lv_imul hx hb dX11_choose_106 ?_
    refine lv_iconst (v := (1 : Int32)) hx hb dX11_choose_107 rfl ?_
    refine lv_iadd hx hb dX11_choose_108 ?_
    refine lv_iload hx hb dX11_choose_109 (lv_at hl 4 rfl) ?_
    refine lv_bipush (v := (6 : Int32)) hx hb dX11_choose_111 rfl ?_
    refine lv_irm hx hb dX11_choose_113 (by decide) ?_
    obtain ⟨hi5, hf⟩ := it_g hf
    refine r_iast C hw 10 (f := ((u2 Tm 10 ((2 : Int32) * x4).toNatClampNeg (x5 / (6 : Int32))) 10)) rfl hi5 (ws' := (gcM g zm (u2 (u2 Tm 10 ((2 : Int32) * x4).toNatClampNeg (x5 / (6 : Int32))) 10 (((2 : Int32) * x4) + (1 : Int32)).toNatClampNeg (irm x5 (6 : Int32))))) gcM_a10 dX11_choose_114 (fun H locs hw => ?_)
    refine lv_aload_n hx hb dX11_choose_115 rfl (lv_at hl 0 rfl) ?_
    refine lv_iload hx hb dX11_choose_116 (lv_at hl 3 rfl) ?_
    refine lv_iload hx hb dX11_choose_118 (lv_at hl 4 rfl) ?_
    refine lv_bipush (v := (6 : Int32)) hx hb dX11_choose_120 rfl ?_
    refine lv_idiv hx hb dX11_choose_122 (by decide) ?_
    refine lv_iload hx hb dX11_choose_123 (lv_at hl 4 rfl) ?_
    refine lv_bipush (v := (6 : Int32)) hx hb dX11_choose_125 rfl ?_
    refine lv_irm hx hb dX11_choose_127 (by decide) ?_
    obtain ⟨r6, hc7, hf⟩ := bd1_e hf
    refine r_callVi0 C hw (c_X11_breadOf (zm := zm) hc7) md_X11_breadOf [0, 1, 2, 3, 4, 5, 6, 7, 8, 9, 10, 11, 12, 13, 14, 15, 16, 17, 18] rfl rfl q5_202 0 rfl cf_X11.1 ⟨Nat.le_of_ble_eq_true rfl, Nat.le_of_ble_eq_true rfl⟩ ⟨Nat.zero_le _, Nat.zero_le _⟩ hl.1 rfl rfl (Nat.le_of_ble_eq_true rfl) dX11_choose_128 (fun H locs hw => ?_)
    refine lv_istore (lv' := [(6, .int r6), (0, .ref (zm 0)), (1, .int x1), (3, .int x3), (4, .int x4), (5, .int x5)]) hx hb dX11_choose_131 hl (by decide) rfl (fun ls hl => ?_)
    refine lv_aload_n hx hb dX11_choose_133 rfl (lv_at hl 1 rfl) ?_
    refine lv_dup hx hb dX11_choose_134 rfl ?_
    refine r_get C hw 0 rfl cf_X11 21 (by decide) q4_194 (v := .int (Tm 0 21)) rfl dX11_choose_135 ?_
    refine lv_iload hx hb dX11_choose_138 (lv_at hl 0 rfl) ?_
    refine lv_iadd hx hb dX11_choose_140 ?_
    refine r_puti C hw 0 rfl cf_X11 21 (by decide) q4_194 rfl rfl (Nat.le_of_ble_eq_true rfl) (ws' := (gcM g zm (u2 (u2 (u2 Tm 10 ((2 : Int32) * x4).toNatClampNeg (x5 / (6 : Int32))) 10 (((2 : Int32) * x4) + (1 : Int32)).toNatClampNeg (irm x5 (6 : Int32))) 0 21 ((Tm 0 21) + r6)))) gcM_p21 dX11_choose_141 (fun H locs hw => ?_)
    refine lv_iload_n hx hb dX11_choose_144 rfl (lv_at hl 3 rfl) ?_
    refine lv_iload hx hb dX11_choose_145 (lv_at hl 0 rfl) ?_
    refine lv_icmp_le (tgt := 157) hx hb dX11_choose_147 (by decide) (fun hc8 => ?_) (fun hc8 => ?_)
    · have hf := it_p hf hc8
      refine lv_iconst (v := (0 : Int32)) hx hb dX11_choose_157 rfl ?_
      refine lv_istore_n (lv' := [(3, .int (0 : Int32)), (6, .int r6), (0, .ref (zm 0)), (1, .int x1), (4, .int x4), (5, .int x5)]) hx hb dX11_choose_158 rfl hl (by decide) rfl (fun ls hl => ?_)
      refine lv_iinc (v := (x4 + (1 : Int32))) (lv' := [(4, .int (x4 + (1 : Int32))), (3, .int (0 : Int32)), (6, .int r6), (0, .ref (zm 0)), (1, .int x1), (5, .int x5)]) hx hb dX11_choose_159 hl (k := 4) rfl rfl (by decide) rfl (fun ls hl => ?_)
      refine lv_goto (tgt := 28) hx hb dX11_choose_162 (by decide) ?_
      exact hr28 _ _ _ _ _ _ _ hf hw (lv_sub hl [3, 4, 1, 0] rfl)
    · have hf := it_n hf hc8
      refine lv_iload_n hx hb dX11_choose_150 rfl (lv_at hl 3 rfl) ?_
      refine lv_iload hx hb dX11_choose_151 (lv_at hl 0 rfl) ?_
      refine lv_isub hx hb dX11_choose_153 ?_
      refine lv_goto (tgt := 158) hx hb dX11_choose_154 (by decide) ?_
      refine lv_istore_n (lv' := [(3, .int (x3 - r6)), (6, .int r6), (0, .ref (zm 0)), (1, .int x1), (4, .int x4), (5, .int x5)]) hx hb dX11_choose_158 rfl hl (by decide) rfl (fun ls hl => ?_)
      refine lv_iinc (v := (x4 + (1 : Int32))) (lv' := [(4, .int (x4 + (1 : Int32))), (3, .int (x3 - r6)), (6, .int r6), (0, .ref (zm 0)), (1, .int x1), (5, .int x5)]) hx hb dX11_choose_159 hl (k := 4) rfl rfl (by decide) rfl (fun ls hl => ?_)
      refine lv_goto (tgt := 28) hx hb dX11_choose_162 (by decide) ?_
      exact hr28 _ _ _ _ _ _ _ hf hw (lv_sub hl [3, 4, 1, 0] rfl)
  · have hf := it_n hf hc9
    refine lv_iinc (v := (x5 + (1 : Int32))) (lv' := [(5, .int (x5 + (1 : Int32))), (0, .ref (zm 0)), (1, .int x1), (3, .int x3), (4, .int x4)]) hx hb dX11_choose_79 hl (k := 4) rfl rfl (by decide) rfl (fun ls hl => ?_)
    refine lv_goto (tgt := 45) hx hb dX11_choose_82 (by decide) ?_
    exact hr45 _ _ _ _ _ _ _ _ hf hw (lv_sub hl [1, 2, 3, 4, 0] rfl)
set_option maxRecDepth 100000 in
set_option maxHeartbeats 4000000 in
theorem klX11_choose_45 {l : Launch} {g : evG} {p : Program} {e : Env} {s : State} {m : MethodId} {args : Array Value} {below : List Frame} {meth : Method} {c : Code} {A : Nat → Prop} {zm : Nat → Nat} {r : Int32} {om : Gp} (C : ctx g p s m args meth c RX11 cX11_choose 7 (some .boolean) A) {rec28 : Gp → Int32 → Int32 → Int32 → Option (Int32 × Gp)} (hr28 : ∀ (Tm : Gp) (x1 : Int32) (x3 : Int32) (x4 : Int32) (H : Heap) (locs : List Loc) (ls : Array Slot), rec28 Tm x1 x3 x4 = some (r, om) → wl g A s.heap (gcM g zm Tm) H locs → lv_has ls 7 [(0, .ref (zm 0)), (1, .int x1), (3, .int x3), (4, .int x4)] → W p l e (rmK 4 108) s m args below meth c H locs 0 0 (MQ below (Qi g A (gcM g zm om) r) args s 0 0 A) (F0 m 28 ls [])) : ∀ (n : Nat) (Tm : Gp) (x1 : Int32) (x3 : Int32) (x4 : Int32) (x5 : Int32) (H : Heap) (locs : List Loc) (ls : Array Slot), lX11_choose_45 rec28 n Tm x1 x3 x4 x5 = some (r, om) → wl g A s.heap (gcM g zm Tm) H locs → lv_has ls 7 [(0, .ref (zm 0)), (1, .int x1), (3, .int x3), (4, .int x4), (5, .int x5)] → W p l e (rmK 4 108) s m args below meth c H locs 0 0 (MQ below (Qi g A (gcM g zm om) r) args s 0 0 A) (F0 m 45 ls []) := by
  intro n
  induction n with
  | zero => intro _ _ _ _ _ _ _ _ hf; exact no_f hf
  | succ n ih => intro _ _ _ _ _ _ _ _ hf hw hl; exact kX11_choose_45 (zm := zm) (r := r) (om := om) C hr28 (rec45 := lX11_choose_45 rec28 n) ih hf hw hl
set_option maxRecDepth 100000 in
set_option maxHeartbeats 4000000 in
theorem kX11_choose_28 {l : Launch} {g : evG} {p : Program} {e : Env} {s : State} {m : MethodId} {args : Array Value} {below : List Frame} {meth : Method} {c : Code} {A : Nat → Prop} {zm : Nat → Nat} {r : Int32} {om : Gp} (C : ctx g p s m args meth c RX11 cX11_choose 7 (some .boolean) A) {rec28 : Gp → Int32 → Int32 → Int32 → Option (Int32 × Gp)} (hr28 : ∀ (Tm : Gp) (x1 : Int32) (x3 : Int32) (x4 : Int32) (H : Heap) (locs : List Loc) (ls : Array Slot), rec28 Tm x1 x3 x4 = some (r, om) → wl g A s.heap (gcM g zm Tm) H locs → lv_has ls 7 [(0, .ref (zm 0)), (1, .int x1), (3, .int x3), (4, .int x4)] → W p l e (rmK 4 108) s m args below meth c H locs 0 0 (MQ below (Qi g A (gcM g zm om) r) args s 0 0 A) (F0 m 28 ls [])) {Tm : Gp} {x1 : Int32} {x3 : Int32} {x4 : Int32} {H : Heap} {locs : List Loc} {ls : Array Slot} (hf : fX11_choose_28 rec28 Tm x1 x3 x4 = some (r, om)) (hw : wl g A s.heap (gcM g zm Tm) H locs) (hl : lv_has ls 7 [(0, .ref (zm 0)), (1, .int x1), (3, .int x3), (4, .int x4)]) : W p l e (rmK 4 108) s m args below meth c H locs 0 0 (MQ below (Qi g A (gcM g zm om) r) args s 0 0 A) (F0 m 28 ls []) := by
  obtain ⟨hx, hb, hml, hown, hts, -⟩ := id C
  unfold fX11_choose_28 at hf
  refine lv_iload hx hb dX11_choose_28 (lv_at hl 3 rfl) ?_
  refine lv_aload_n hx hb dX11_choose_30 rfl (lv_at hl 0 rfl) ?_
  refine r_get C hw 0 rfl cf_X11 6 (by decide) q4_179 (v := .int (Tm 0 6)) rfl dX11_choose_31 ?_
  refine lv_aload_n hx hb dX11_choose_34 rfl (lv_at hl 0 rfl) ?_
  refine r_get C hw 0 rfl cf_X11 7 (by decide) q4_180 (v := .int (Tm 0 7)) rfl dX11_choose_35 ?_
  refine lv_imul hx hb dX11_choose_38 ?_
  refine lv_icmp_ge (tgt := 165) hx hb dX11_choose_39 (by decide) (fun hc1 => ?_) (fun hc1 => ?_)
  · have hf := it_p hf hc1
    refine lv_iconst (v := (1 : Int32)) hx hb dX11_choose_165 rfl ?_
    obtain ⟨rfl, rfl⟩ := so2 hf
    exact r_zret C hw rfl rfl dX11_choose_166
  · have hf := it_n hf hc1
    refine lv_iconst (v := (0 : Int32)) hx hb dX11_choose_42 rfl ?_
    refine lv_istore (lv' := [(5, .int (0 : Int32)), (0, .ref (zm 0)), (1, .int x1), (3, .int x3), (4, .int x4)]) hx hb dX11_choose_43 hl (by decide) rfl (fun ls hl => ?_)
    exact klX11_choose_45 (zm := zm) (r := r) (om := om) C hr28 fu _ _ _ _ _ _ _ _ hf hw (lv_sub hl [1, 2, 3, 4, 0] rfl)
set_option maxRecDepth 100000 in
set_option maxHeartbeats 4000000 in
theorem klX11_choose_28 {l : Launch} {g : evG} {p : Program} {e : Env} {s : State} {m : MethodId} {args : Array Value} {below : List Frame} {meth : Method} {c : Code} {A : Nat → Prop} {zm : Nat → Nat} {r : Int32} {om : Gp} (C : ctx g p s m args meth c RX11 cX11_choose 7 (some .boolean) A) : ∀ (n : Nat) (Tm : Gp) (x1 : Int32) (x3 : Int32) (x4 : Int32) (H : Heap) (locs : List Loc) (ls : Array Slot), lX11_choose_28 n Tm x1 x3 x4 = some (r, om) → wl g A s.heap (gcM g zm Tm) H locs → lv_has ls 7 [(0, .ref (zm 0)), (1, .int x1), (3, .int x3), (4, .int x4)] → W p l e (rmK 4 108) s m args below meth c H locs 0 0 (MQ below (Qi g A (gcM g zm om) r) args s 0 0 A) (F0 m 28 ls []) := by
  intro n
  induction n with
  | zero => intro _ _ _ _ _ _ _ hf; exact no_f hf
  | succ n ih => intro _ _ _ _ _ _ _ hf hw hl; exact kX11_choose_28 (zm := zm) (r := r) (om := om) C (rec28 := lX11_choose_28 n) ih hf hw hl
set_option maxRecDepth 100000 in
set_option maxHeartbeats 4000000 in
theorem c_X11_choose {l : Launch} {g : evG} {zm : Nat → Nat} {r : Int32} {om : Gp}  {Tm : Gp} {x1 : Int32} {x2 : Int32} (hf : fX11_choose Tm x1 x2 = some (r, om)) : CTi l g yX11_choose (Cond.code yX11_choose cX11_choose 7 (some .boolean)) 4 108 [.ref (zm 0), .int x1, .int x2] (gcM g zm Tm) (gcM g zm om) r := by
  refine ct_i rfl (Nat.le_of_ble_eq_true rfl) ?_
  intro p e s m args below meth c A ls C hw hl
  have C : ctx g p s m args meth c RX11 cX11_choose 7 (some .boolean) A := C
  have hl : lv_has ls 7 [(0, .ref (zm 0)), (1, .int x1), (2, .int x2)] := hl
  obtain ⟨hx, hb, hml, hown, hts, -⟩ := id C
  unfold fX11_choose at hf
  refine lv_aload_n hx hb dX11_choose_0 rfl (lv_at hl 0 rfl) ?_
  refine lv_iload_n hx hb dX11_choose_1 rfl (lv_at hl 1 rfl) ?_
  refine lv_iload_n hx hb dX11_choose_2 rfl (lv_at hl 2 rfl) ?_
  obtain ⟨Tm_1, hc2, hf⟩ := bd1_e hf
  refine r_callVvF C hw (c_X11_layWorths (zm := zm) hc2) md_X11_layWorths [0, 1, 2, 3, 4, 5, 6, 7, 8, 9, 10, 11, 12, 13, 14, 15, 16, 17, 18] rfl rfl rfl rfl q5_190 0 rfl cf_X11.1 ⟨Nat.le_of_ble_eq_true rfl, Nat.le_of_ble_eq_true rfl⟩ ⟨Nat.zero_le _, Nat.zero_le _⟩ hl.1 rfl rfl (Nat.le_of_ble_eq_true rfl) dX11_choose_3 (fun H locs hw => ?_)
  refine lv_aload_n hx hb dX11_choose_6 rfl (lv_at hl 0 rfl) ?_
  refine r_get C hw 0 rfl cf_X11 19 (by decide) q4_192 (v := .ref (zm 9)) rfl dX11_choose_7 ?_
  refine lv_iload_n hx hb dX11_choose_10 rfl (lv_at hl 2 rfl) ?_
  obtain ⟨hi3, hf⟩ := it_g hf
  refine r_iald C hw 9 (f := (Tm_1 9)) rfl hi3 dX11_choose_11 ?_
  refine lv_iconst (v := (-1 : Int32)) hx hb dX11_choose_12 rfl ?_
  refine lv_icmp_ne (tgt := 18) hx hb dX11_choose_13 (by decide) (fun hc4 => ?_) (fun hc4 => ?_)
  · have hf := it_n hf hc4
    refine lv_iload_n hx hb dX11_choose_18 rfl (lv_at hl 2 rfl) ?_
    refine lv_istore_n (lv' := [(3, .int x2), (0, .ref (zm 0)), (1, .int x1), (2, .int x2)]) hx hb dX11_choose_19 rfl hl (by decide) rfl (fun ls hl => ?_)
    refine lv_aload_n hx hb dX11_choose_20 rfl (lv_at hl 1 rfl) ?_
    refine lv_iconst (v := (0 : Int32)) hx hb dX11_choose_21 rfl ?_
    refine r_puti C hw 0 rfl cf_X11 21 (by decide) q4_194 rfl rfl (Nat.le_of_ble_eq_true rfl) (ws' := (gcM g zm (u2 Tm_1 0 21 (0 : Int32)))) gcM_p21 dX11_choose_22 (fun H locs hw => ?_)
    refine lv_iconst (v := (0 : Int32)) hx hb dX11_choose_25 rfl ?_
    refine lv_istore (lv' := [(4, .int (0 : Int32)), (3, .int x2), (0, .ref (zm 0)), (1, .int x1), (2, .int x2)]) hx hb dX11_choose_26 hl (by decide) rfl (fun ls hl => ?_)
    exact klX11_choose_28 (zm := zm) (r := r) (om := om) C fu _ _ _ _ _ _ _ hf hw (lv_sub hl [2, 3, 1, 0] rfl)
  · have hf := it_p hf hc4
    refine lv_iconst (v := (0 : Int32)) hx hb dX11_choose_16 rfl ?_
    obtain ⟨rfl, rfl⟩ := so2 hf
    exact r_zret C hw rfl rfl dX11_choose_17
set_option maxRecDepth 100000 in
set_option maxHeartbeats 4000000 in
theorem c_X11_isPlan {l : Launch} {g : evG}  {r : Int32}  {x0 : Int32} {x1 : Int32} (hf : fX11_isPlan x0 x1 = some (r)) : CTi l g yX11_isPlan (Cond.code yX11_isPlan cX11_isPlan 2 (some .boolean)) 1 25 [.int x0, .int x1] ([] : va_W) ([] : va_W) r := by
  refine ct_i rfl (Nat.le_of_ble_eq_true rfl) ?_
  intro p e s m args below meth c A ls C hw hl
  have C : ctx g p s m args meth c RX11 cX11_isPlan 2 (some .boolean) A := C
  have hl : lv_has ls 2 [(0, .int x0), (1, .int x1)] := hl
  obtain ⟨hx, hb, hml, hown, hts, -⟩ := id C
  unfold fX11_isPlan at hf
  refine lv_iload_n hx hb dX11_isPlan_0 rfl (lv_at hl 0 rfl) ?_
  refine lv_i2l hx hb dX11_isPlan_1 rfl ?_
  refine lv_lconst (v := (0 : Int64)) hx hb dX11_isPlan_2 rfl ?_
  refine lv_lconst (v := (1 : Int64)) hx hb dX11_isPlan_3 rfl ?_
  obtain ⟨r1, hc2, hf⟩ := bd1_e hf
  refine r_callSi0 C hw (c_X11_in hc2) md_X11_in [] rfl rfl q5_32 ⟨Nat.le_of_ble_eq_true rfl, Nat.le_of_ble_eq_true rfl⟩ ⟨Nat.zero_le _, Nat.zero_le _⟩ hl.1 rfl rfl (Nat.le_of_ble_eq_true rfl) dX11_isPlan_4 (fun H locs hw => ?_)
  refine lv_if_eq (tgt := 26) hx hb dX11_isPlan_7 (by decide) (fun hc6 => ?_) (fun hc6 => ?_)
  · have hf := it_p hf hc6
    refine lv_iconst (v := (0 : Int32)) hx hb dX11_isPlan_26 rfl ?_
    obtain rfl := so1 hf
    exact r_zret C hw rfl rfl dX11_isPlan_27
  · have hf := it_n hf hc6
    refine lv_iload_n hx hb dX11_isPlan_10 rfl (lv_at hl 1 rfl) ?_
    refine lv_i2l hx hb dX11_isPlan_11 rfl ?_
    refine lv_lconst (v := (0 : Int64)) hx hb dX11_isPlan_12 rfl ?_
    refine lv_ldc2 (v := (200 : Int64)) hx hb hown (hts _ q5_185) dX11_isPlan_13 ?_
    obtain ⟨r3, hc4, hf⟩ := bd1_e hf
    refine r_callSi0 C hw (c_X11_in hc4) md_X11_in [] rfl rfl q5_32 ⟨Nat.le_of_ble_eq_true rfl, Nat.le_of_ble_eq_true rfl⟩ ⟨Nat.zero_le _, Nat.zero_le _⟩ hl.1 rfl rfl (Nat.le_of_ble_eq_true rfl) dX11_isPlan_16 (fun H locs hw => ?_)
    refine lv_if_eq (tgt := 26) hx hb dX11_isPlan_19 (by decide) (fun hc5 => ?_) (fun hc5 => ?_)
    · have hf := it_p hf hc5
      refine lv_iconst (v := (0 : Int32)) hx hb dX11_isPlan_26 rfl ?_
      obtain rfl := so1 hf
      exact r_zret C hw rfl rfl dX11_isPlan_27
    · have hf := it_n hf hc5
      refine lv_iconst (v := (1 : Int32)) hx hb dX11_isPlan_22 rfl ?_
      refine lv_goto (tgt := 27) hx hb dX11_isPlan_23 (by decide) ?_
      obtain rfl := so1 hf
      exact r_zret C hw rfl rfl dX11_isPlan_27
set_option maxRecDepth 100000 in
set_option maxHeartbeats 4000000 in
theorem c_X11_plan {l : Launch} {g : evG} {zm : Nat → Nat} {r : Int32} {om : Gp}  {Tm : Gp} {x1 : Int32} {x2 : Int32} {x3 : Int32} (hf : fX11_plan Tm x1 x2 x3 = some (r, om)) : CTi l g yX11_plan (Cond.code yX11_plan cX11_plan 4 (some .int)) 5 134 [.ref (zm 0), .int x1, .int x2, .int x3] (gcM g zm Tm) (gcM g zm om) r := by
  refine ct_i rfl (Nat.le_of_ble_eq_true rfl) ?_
  intro p e s m args below meth c A ls C hw hl
  have C : ctx g p s m args meth c RX11 cX11_plan 4 (some .int) A := C
  have hl : lv_has ls 4 [(0, .ref (zm 0)), (1, .int x1), (2, .int x2), (3, .int x3)] := hl
  obtain ⟨hx, hb, hml, hown, hts, -⟩ := id C
  unfold fX11_plan at hf
  refine lv_iload_n hx hb dX11_plan_0 rfl (lv_at hl 1 rfl) ?_
  refine lv_iload_n hx hb dX11_plan_1 rfl (lv_at hl 2 rfl) ?_
  obtain ⟨r1, hc2, hf⟩ := bd1_e hf
  refine r_callSi0 C hw (c_X11_isPlan hc2) md_X11_isPlan [] rfl rfl q5_182 ⟨Nat.le_of_ble_eq_true rfl, Nat.le_of_ble_eq_true rfl⟩ ⟨Nat.zero_le _, Nat.zero_le _⟩ hl.1 rfl rfl (Nat.le_of_ble_eq_true rfl) dX11_plan_2 (fun H locs hw => ?_)
  refine lv_if_eq (tgt := 18) hx hb dX11_plan_5 (by decide) (fun hc12 => ?_) (fun hc12 => ?_)
  · have hf := it_p hf hc12
    refine lv_bipush (v := (-3 : Int32)) hx hb dX11_plan_18 rfl ?_
    obtain ⟨rfl, rfl⟩ := so2 hf
    exact r_iret C hw rfl dX11_plan_20
  · have hf := it_n hf hc12
    refine lv_iload_n hx hb dX11_plan_8 rfl (lv_at hl 3 rfl) ?_
    refine lv_i2l hx hb dX11_plan_9 rfl ?_
    refine lv_lconst (v := (0 : Int64)) hx hb dX11_plan_10 rfl ?_
    refine lv_lconst (v := (1 : Int64)) hx hb dX11_plan_11 rfl ?_
    obtain ⟨r3, hc4, hf⟩ := bd1_e hf
    refine r_callSi0 C hw (c_X11_in hc4) md_X11_in [] rfl rfl q5_32 ⟨Nat.le_of_ble_eq_true rfl, Nat.le_of_ble_eq_true rfl⟩ ⟨Nat.zero_le _, Nat.zero_le _⟩ hl.1 rfl rfl (Nat.le_of_ble_eq_true rfl) dX11_plan_12 (fun H locs hw => ?_)
    refine lv_if_ne (tgt := 21) hx hb dX11_plan_15 (by decide) (fun hc11 => ?_) (fun hc11 => ?_)
    · have hf := it_n hf hc11
      refine lv_aload_n hx hb dX11_plan_21 rfl (lv_at hl 0 rfl) ?_
      refine lv_iload_n hx hb dX11_plan_22 rfl (lv_at hl 1 rfl) ?_
      refine lv_iload_n hx hb dX11_plan_23 rfl (lv_at hl 2 rfl) ?_
      obtain ⟨r5, Tm_6, hc7, hf⟩ := bd2_e hf
      refine r_callViF C hw (c_X11_choose (zm := zm) hc7) md_X11_choose [0, 1, 2, 3, 4, 5, 6, 7, 8, 9, 10, 11, 12, 13, 14, 15, 16, 17, 18] rfl rfl rfl rfl q5_186 0 rfl cf_X11.1 ⟨Nat.le_of_ble_eq_true rfl, Nat.le_of_ble_eq_true rfl⟩ ⟨Nat.zero_le _, Nat.zero_le _⟩ hl.1 rfl rfl (Nat.le_of_ble_eq_true rfl) dX11_plan_24 (fun H locs hw => ?_)
      refine lv_if_ne (tgt := 34) hx hb dX11_plan_27 (by decide) (fun hc10 => ?_) (fun hc10 => ?_)
      · have hf := it_n hf hc10
        refine lv_iload_n hx hb dX11_plan_34 rfl (lv_at hl 3 rfl) ?_
        refine lv_if_ne (tgt := 47) hx hb dX11_plan_35 (by decide) (fun hc9 => ?_) (fun hc9 => ?_)
        · have hf := it_n hf hc9
          refine lv_aload_n hx hb dX11_plan_47 rfl (lv_at hl 0 rfl) ?_
          refine r_get C hw 0 rfl cf_X11 21 (by decide) q4_194 (v := .int (Tm_6 0 21)) rfl dX11_plan_48 ?_
          obtain ⟨rfl, rfl⟩ := so2 hf
          exact r_iret C hw rfl dX11_plan_51
        · have hf := it_p hf hc9
          refine lv_aload_n hx hb dX11_plan_38 rfl (lv_at hl 0 rfl) ?_
          refine r_get C hw 0 rfl cf_X11 19 (by decide) q4_192 (v := .ref (zm 9)) rfl dX11_plan_39 ?_
          refine lv_iload_n hx hb dX11_plan_42 rfl (lv_at hl 2 rfl) ?_
          obtain ⟨hi8, hf⟩ := it_g hf
          refine r_iald C hw 9 (f := (Tm_6 9)) rfl hi8 dX11_plan_43 ?_
          refine lv_goto (tgt := 51) hx hb dX11_plan_44 (by decide) ?_
          obtain ⟨rfl, rfl⟩ := so2 hf
          exact r_iret C hw rfl dX11_plan_51
      · have hf := it_p hf hc10
        refine lv_iconst (v := (-1 : Int32)) hx hb dX11_plan_30 rfl ?_
        refine lv_goto (tgt := 51) hx hb dX11_plan_31 (by decide) ?_
        obtain ⟨rfl, rfl⟩ := so2 hf
        exact r_iret C hw rfl dX11_plan_51
    · have hf := it_p hf hc11
      refine lv_bipush (v := (-3 : Int32)) hx hb dX11_plan_18 rfl ?_
      obtain ⟨rfl, rfl⟩ := so2 hf
      exact r_iret C hw rfl dX11_plan_20
set_option maxRecDepth 100000 in
set_option maxHeartbeats 4000000 in
theorem c_X11_planned {l : Launch} {g : evG} {zm : Nat → Nat} {r : Int32} {om : Gp}  {Tm : Gp} {x1 : Int32} {x2 : Int32} {x3 : Int32} {x4 : Int32} {x5 : Int32} (hf : fX11_planned Tm x1 x2 x3 x4 x5 = some (r, om)) : CTi l g yX11_planned (Cond.code yX11_planned cX11_planned 6 (some .int)) 5 134 [.ref (zm 0), .int x1, .int x2, .int x3, .int x4, .int x5] (gcM g zm Tm) (gcM g zm om) r := by
  refine ct_i rfl (Nat.le_of_ble_eq_true rfl) ?_
  intro p e s m args below meth c A ls C hw hl
  have C : ctx g p s m args meth c RX11 cX11_planned 6 (some .int) A := C
  have hl : lv_has ls 6 [(0, .ref (zm 0)), (1, .int x1), (2, .int x2), (3, .int x3), (4, .int x4), (5, .int x5)] := hl
  obtain ⟨hx, hb, hml, hown, hts, -⟩ := id C
  unfold fX11_planned at hf
  refine lv_iload_n hx hb dX11_planned_0 rfl (lv_at hl 3 rfl) ?_
  obtain ⟨r1, hc2, hf⟩ := bd1_e hf
  refine r_callSi0 C hw (c_X11_isValley hc2) md_X11_isValley [] rfl rfl q5_107 ⟨Nat.le_of_ble_eq_true rfl, Nat.le_of_ble_eq_true rfl⟩ ⟨Nat.zero_le _, Nat.zero_le _⟩ hl.1 rfl rfl (Nat.le_of_ble_eq_true rfl) dX11_planned_1 (fun H locs hw => ?_)
  refine lv_if_eq (tgt := 25) hx hb dX11_planned_4 (by decide) (fun hc17 => ?_) (fun hc17 => ?_)
  · have hf := it_p hf hc17
    refine lv_bipush (v := (-2 : Int32)) hx hb dX11_planned_25 rfl ?_
    obtain ⟨rfl, rfl⟩ := so2 hf
    exact r_iret C hw rfl dX11_planned_27
  · have hf := it_n hf hc17
    refine lv_aload_n hx hb dX11_planned_7 rfl (lv_at hl 0 rfl) ?_
    refine lv_iload hx hb dX11_planned_8 (lv_at hl 4 rfl) ?_
    obtain ⟨r3, hc4, hf⟩ := bd1_e hf
    refine r_callVi0 C hw (c_X11_isPair (zm := zm) hc4) md_X11_isPair [0, 1, 2, 3, 4, 5, 6, 7, 8, 9, 10, 11, 12, 13, 14, 15, 16, 17, 18] rfl rfl q5_110 0 rfl cf_X11.1 ⟨Nat.le_of_ble_eq_true rfl, Nat.le_of_ble_eq_true rfl⟩ ⟨Nat.zero_le _, Nat.zero_le _⟩ hl.1 rfl rfl (Nat.le_of_ble_eq_true rfl) dX11_planned_10 (fun H locs hw => ?_)
    refine lv_if_eq (tgt := 25) hx hb dX11_planned_13 (by decide) (fun hc16 => ?_) (fun hc16 => ?_)
    · have hf := it_p hf hc16
      refine lv_bipush (v := (-2 : Int32)) hx hb dX11_planned_25 rfl ?_
      obtain ⟨rfl, rfl⟩ := so2 hf
      exact r_iret C hw rfl dX11_planned_27
    · have hf := it_n hf hc16
      refine lv_aload_n hx hb dX11_planned_16 rfl (lv_at hl 0 rfl) ?_
      refine lv_iload hx hb dX11_planned_17 (lv_at hl 5 rfl) ?_
      obtain ⟨r5, hc6, hf⟩ := bd1_e hf
      refine r_callVi0 C hw (c_X11_isHour (zm := zm) hc6) md_X11_isHour [0, 1, 2, 3, 4, 5, 6, 7, 8, 9, 10, 11, 12, 13, 14, 15, 16, 17, 18] rfl rfl q5_114 0 rfl cf_X11.1 ⟨Nat.le_of_ble_eq_true rfl, Nat.le_of_ble_eq_true rfl⟩ ⟨Nat.zero_le _, Nat.zero_le _⟩ hl.1 rfl rfl (Nat.le_of_ble_eq_true rfl) dX11_planned_19 (fun H locs hw => ?_)
      refine lv_if_ne (tgt := 28) hx hb dX11_planned_22 (by decide) (fun hc15 => ?_) (fun hc15 => ?_)
      · have hf := it_n hf hc15
        refine lv_iload_n hx hb dX11_planned_28 rfl (lv_at hl 1 rfl) ?_
        refine lv_iload_n hx hb dX11_planned_29 rfl (lv_at hl 2 rfl) ?_
        obtain ⟨r7, hc8, hf⟩ := bd1_e hf
        refine r_callSi0 C hw (c_X11_isPlan hc8) md_X11_isPlan [] rfl rfl q5_182 ⟨Nat.le_of_ble_eq_true rfl, Nat.le_of_ble_eq_true rfl⟩ ⟨Nat.zero_le _, Nat.zero_le _⟩ hl.1 rfl rfl (Nat.le_of_ble_eq_true rfl) dX11_planned_30 (fun H locs hw => ?_)
        refine lv_if_ne (tgt := 39) hx hb dX11_planned_33 (by decide) (fun hc14 => ?_) (fun hc14 => ?_)
        · have hf := it_n hf hc14
          refine lv_aload_n hx hb dX11_planned_39 rfl (lv_at hl 0 rfl) ?_
          refine lv_iload_n hx hb dX11_planned_40 rfl (lv_at hl 1 rfl) ?_
          refine lv_iload_n hx hb dX11_planned_41 rfl (lv_at hl 2 rfl) ?_
          obtain ⟨r9, Tm_10, hc11, hf⟩ := bd2_e hf
          refine r_callViF C hw (c_X11_choose (zm := zm) hc11) md_X11_choose [0, 1, 2, 3, 4, 5, 6, 7, 8, 9, 10, 11, 12, 13, 14, 15, 16, 17, 18] rfl rfl rfl rfl q5_186 0 rfl cf_X11.1 ⟨Nat.le_of_ble_eq_true rfl, Nat.le_of_ble_eq_true rfl⟩ ⟨Nat.zero_le _, Nat.zero_le _⟩ hl.1 rfl rfl (Nat.le_of_ble_eq_true rfl) dX11_planned_42 (fun H locs hw => ?_)
          refine lv_if_eq (tgt := 70) hx hb dX11_planned_45 (by decide) (fun hc13 => ?_) (fun hc13 => ?_)
          · have hf := it_p hf hc13
            refine lv_iconst (v := (-1 : Int32)) hx hb dX11_planned_70 rfl ?_
            obtain ⟨rfl, rfl⟩ := so2 hf
            exact r_iret C hw rfl dX11_planned_71
          · have hf := it_n hf hc13
            refine lv_aload_n hx hb dX11_planned_48 rfl (lv_at hl 0 rfl) ?_
            refine r_get C hw 0 rfl cf_X11 20 (by decide) q4_193 (v := .ref (zm 10)) rfl dX11_planned_49 ?_
            refine lv_iconst (v := (2 : Int32)) hx hb dX11_planned_52 rfl ?_
            refine lv_aload_n hx hb dX11_planned_53 rfl (lv_at hl 0 rfl) ?_
            refine r_get C hw 0 rfl cf_X11 7 (by decide) q4_180 (v := .int (Tm_10 0 7)) rfl dX11_planned_54 ?_
            refine lv_iload hx hb dX11_planned_57 (lv_at hl 4 rfl) ?_
            refine lv_imul hx hb dX11_planned_59 ?_
            refine lv_iload hx hb dX11_planned_60 (lv_at hl 5 rfl) ?_
            refine lv_iadd hx hb dX11_planned_62 ?_
            refine lv_imul hx hb dX11_planned_63 ?_
            refine lv_iload_n hx hb dX11_planned_64 rfl (lv_at hl 3 rfl) ?_
            refine lv_iadd hx hb dX11_planned_65 ?_
            obtain ⟨hi12, hf⟩ := it_g hf
            refine r_iald C hw 10 (f := (Tm_10 10)) rfl hi12 dX11_planned_66 ?_
            refine lv_goto (tgt := 71) hx hb dX11_planned_67 (by decide) ?_
            obtain ⟨rfl, rfl⟩ := so2 hf
            exact r_iret C hw rfl dX11_planned_71
        · have hf := it_p hf hc14
          refine lv_bipush (v := (-3 : Int32)) hx hb dX11_planned_36 rfl ?_
          obtain ⟨rfl, rfl⟩ := so2 hf
          exact r_iret C hw rfl dX11_planned_38
      · have hf := it_p hf hc15
        refine lv_bipush (v := (-2 : Int32)) hx hb dX11_planned_25 rfl ?_
        obtain ⟨rfl, rfl⟩ := so2 hf
        exact r_iret C hw rfl dX11_planned_27
set_option maxRecDepth 100000 in
set_option maxHeartbeats 4000000 in
theorem c_X11_classAt {l : Launch} {g : evG}  {r : Int32}  {x0 : Int32} {x1 : Int32} (hf : fX11_classAt x0 x1 = some (r)) : CTi l g yX11_classAt (Cond.code yX11_classAt cX11_classAt 2 (some .int)) 0 0 [.int x0, .int x1] ([] : va_W) ([] : va_W) r := by
  refine ct_i rfl (Nat.le_of_ble_eq_true rfl) ?_
  intro p e s m args below meth c A ls C hw hl
  have C : ctx g p s m args meth c RX11 cX11_classAt 2 (some .int) A := C
  have hl : lv_has ls 2 [(0, .int x0), (1, .int x1)] := hl
  obtain ⟨hx, hb, hml, hown, hts, -⟩ := id C
  unfold fX11_classAt at hf
  refine lv_iload_n hx hb dX11_classAt_0 rfl (lv_at hl 0 rfl) ?_
  refine lv_iconst (v := (2 : Int32)) hx hb dX11_classAt_1 rfl ?_
  refine lv_iload_n hx hb dX11_classAt_2 rfl (lv_at hl 1 rfl) ?_
  refine lv_imul hx hb dX11_classAt_3 ?_
  refine lv_ishr hx hb dX11_classAt_4 ?_
  refine lv_iconst (v := (3 : Int32)) hx hb dX11_classAt_5 rfl ?_
  refine lv_iand hx hb dX11_classAt_6 ?_
  obtain rfl := so1 hf
  exact r_iret C hw rfl dX11_classAt_7
