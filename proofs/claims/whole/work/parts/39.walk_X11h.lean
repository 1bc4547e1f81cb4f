set_option maxRecDepth 100000 in
set_option maxHeartbeats 4000000 in
theorem kX11_layRests_69 {l : Launch} {g : evG} {p : Program} {e : Env} {s : State} {m : MethodId} {args : Array Value} {below : List Frame} {meth : Method} {c : Code} {A : Nat → Prop} {zm : Nat → Nat} {r : Int32} {om : Gp} (C : ctx g p s m args meth c RX11 cX11_layRests 7 (some .int) A) {rec9 : Gp → Int32 → Int32 → Int32 → Option (Int32 × Gp)} {rec35 : Gp → Int32 → Int32 → Int32 → Int32 → Int32 → Option (Int32 × Gp)} (hr9 : ∀ (Tm : Gp) (x1 : Int32) (x2 : Int32) (x3 : Int32) (H : Heap) (locs : List Loc) (ls : Array Slot), rec9 Tm x1 x2 x3 = some (r, om) → wl g A s.heap (gcM g zm Tm) H locs → lv_has ls 7 [(0, .ref (zm 0)), (1, .int x1), (2, .int x2), (3, .int x3)] → W p l e (rmK 2 48) s m args below meth c H locs 0 0 (MQ below (Qi g A (gcM g zm om) r) args s 0 0 A) (F0 m 9 ls [])) (hr35 : ∀ (Tm : Gp) (x1 : Int32) (x2 : Int32) (x3 : Int32) (x4 : Int32) (x5 : Int32) (H : Heap) (locs : List Loc) (ls : Array Slot), rec35 Tm x1 x2 x3 x4 x5 = some (r, om) → wl g A s.heap (gcM g zm Tm) H locs → lv_has ls 7 [(0, .ref (zm 0)), (1, .int x1), (2, .int x2), (3, .int x3), (4, .int x4), (5, .int x5)] → W p l e (rmK 2 48) s m args below meth c H locs 0 0 (MQ below (Qi g A (gcM g zm om) r) args s 0 0 A) (F0 m 35 ls [])) {Tm : Gp} {x1 : Int32} {x2 : Int32} {x3 : Int32} {x4 : Int32} {x5 : Int32} {y0 : Int32} {H : Heap} {locs : List Loc} {ls : Array Slot} (hf : fX11_layRests_69 rec9 rec35 Tm x1 x2 x3 x4 x5 y0 = some (r, om)) (hw : wl g A s.heap (gcM g zm Tm) H locs) (hl : lv_has ls 7 [(0, .ref (zm 0)), (1, .int x1), (2, .int x2), (3, .int x3), (4, .int x4), (5, .int x5)]) : W p l e (rmK 2 48) s m args below meth c H locs 0 0 (MQ below (Qi g A (gcM g zm om) r) args s 0 0 A) (F0 m 69 ls [.int y0]) := by
  obtain ⟨hx, hb, hml, hown, hts, -⟩ := id C
  unfold fX11_layRests_69 at hf
  refine lv_istore (lv' := [(6, .int y0), (0, .ref (zm 0)), (1, .int x1), (2, .int x2), (3, .int x3), (4, .int x4), (5, .int x5)]) hx hb dX11_layRests_69 hl (by decide) rfl (fun ls hl => ?_)
  refine lv_iload hx hb dX11_layRests_71 (lv_at hl 0 rfl) ?_
  refine lv_iload hx hb dX11_layRests_73 (lv_at hl 5 rfl) ?_
  refine lv_icmp_ge (tgt := 83) hx hb dX11_layRests_75 (by decide) (fun hc1 => ?_) (fun hc1 => ?_)
  · have hf := it_p hf hc1
    refine lv_iload hx hb dX11_layRests_83 (lv_at hl 5 rfl) ?_
    refine lv_istore (lv' := [(4, .int x4), (6, .int y0), (0, .ref (zm 0)), (1, .int x1), (2, .int x2), (3, .int x3), (5, .int x5)]) hx hb dX11_layRests_85 hl (by decide) rfl (fun ls hl => ?_)
    refine lv_iinc (v := (x5 + (1 : Int32))) (lv' := [(5, .int (x5 + (1 : Int32))), (4, .int x4), (6, .int y0), (0, .ref (zm 0)), (1, .int x1), (2, .int x2), (3, .int x3)]) hx hb dX11_layRests_87 hl (k := 6) rfl rfl (by decide) rfl (fun ls hl => ?_)
    refine lv_goto (tgt := 35) hx hb dX11_layRests_90 (by decide) ?_
    exact hr35 _ _ _ _ _ _ _ _ _ hf hw (lv_sub hl [3, 4, 5, 6, 1, 0] rfl)
  · have hf := it_n hf hc1
    refine lv_iload hx hb dX11_layRests_78 (lv_at hl 0 rfl) ?_
    refine lv_goto (tgt := 85) hx hb dX11_layRests_80 (by decide) ?_
    refine lv_istore (lv' := [(4, .int y0), (6, .int y0), (0, .ref (zm 0)), (1, .int x1), (2, .int x2), (3, .int x3), (5, .int x5)]) hx hb dX11_layRests_85 hl (by decide) rfl (fun ls hl => ?_)
    refine lv_iinc (v := (x5 + (1 : Int32))) (lv' := [(5, .int (x5 + (1 : Int32))), (4, .int y0), (6, .int y0), (0, .ref (zm 0)), (1, .int x1), (2, .int x2), (3, .int x3)]) hx hb dX11_layRests_87 hl (k := 6) rfl rfl (by decide) rfl (fun ls hl => ?_)
    refine lv_goto (tgt := 35) hx hb dX11_layRests_90 (by decide) ?_
    exact hr35 _ _ _ _ _ _ _ _ _ hf hw (lv_sub hl [3, 4, 5, 6, 1, 0] rfl)
set_option maxRecDepth 100000 in
set_option maxHeartbeats 4000000 in
theorem kX11_layRests_35 {l : Launch} {g : evG} {p : Program} {e : Env} {s : State} {m : MethodId} {args : Array Value} {below : List Frame} {meth : Method} {c : Code} {A : Nat → Prop} {zm : Nat → Nat} {r : Int32} {om : Gp} (C : ctx g p s m args meth c RX11 cX11_layRests 7 (some .int) A) {rec9 : Gp → Int32 → Int32 → Int32 → Option (Int32 × Gp)} {rec35 : Gp → Int32 → Int32 → Int32 → Int32 → Int32 → Option (Int32 × Gp)} (hr9 : ∀ (Tm : Gp) (x1 : Int32) (x2 : Int32) (x3 : Int32) (H : Heap) (locs : List Loc) (ls : Array Slot), rec9 Tm x1 x2 x3 = some (r, om) → wl g A s.heap (gcM g zm Tm) H locs → lv_has ls 7 [(0, .ref (zm 0)), (1, .int x1), (2, .int x2), (3, .int x3)] → W p l e (rmK 2 48) s m args below meth c H locs 0 0 (MQ below (Qi g A (gcM g zm om) r) args s 0 0 A) (F0 m 9 ls [])) (hr35 : ∀ (Tm : Gp) (x1 : Int32) (x2 : Int32) (x3 : Int32) (x4 : Int32) (x5 : Int32) (H : Heap) (locs : List Loc) (ls : Array Slot), rec35 Tm x1 x2 x3 x4 x5 = some (r, om) → wl g A s.heap (gcM g zm Tm) H locs → lv_has ls 7 [(0, .ref (zm 0)), (1, .int x1), (2, .int x2), (3, .int x3), (4, .int x4), (5, .int x5)] → W p l e (rmK 2 48) s m args below meth c H locs 0 0 (MQ below (Qi g A (gcM g zm om) r) args s 0 0 A) (F0 m 35 ls [])) {Tm : Gp} {x1 : Int32} {x2 : Int32} {x3 : Int32} {x4 : Int32} {x5 : Int32} {H : Heap} {locs : List Loc} {ls : Array Slot} (hf : fX11_layRests_35 rec9 rec35 Tm x1 x2 x3 x4 x5 = some (r, om)) (hw : wl g A s.heap (gcM g zm Tm) H locs) (hl : lv_has ls 7 [(0, .ref (zm 0)), (1, .int x1), (2, .int x2), (3, .int x3), (4, .int x4), (5, .int x5)]) : W p l e (rmK 2 48) s m args below meth c H locs 0 0 (MQ below (Qi g A (gcM g zm om) r) args s 0 0 A) (F0 m 35 ls []) := by
  obtain ⟨hx, hb, hml, hown, hts, -⟩ := id C
  unfold fX11_layRests_35 at hf
  refine lv_iload hx hb dX11_layRests_35 (lv_at hl 5 rfl) ?_
  refine lv_aload_n hx hb dX11_layRests_37 rfl (lv_at hl 0 rfl) ?_
  refine r_get C hw 0 rfl cf_X11 6 (by decide) q4_179 (v := .int (Tm 0 6)) rfl dX11_layRests_38 ?_
  refine lv_icmp_ge (tgt := 93) hx hb dX11_layRests_41 (by decide) (fun hc7 => ?_) (fun hc7 => ?_)
  · have hf := it_p hf hc7
    refine lv_aload_n hx hb dX11_layRests_93 rfl (lv_at hl 0 rfl) ?_
    refine r_get C hw 0 rfl cf_X11 25 (by decide) q4_198 (v := .ref (zm 14)) rfl dX11_layRests_94 ?_
    refine lv_iload_n hx hb dX11_layRests_97 rfl (lv_at hl 3 rfl) ?_
    refine lv_iload hx hb dX11_layRests_98 (lv_at hl 4 rfl) ?_
    obtain ⟨hi1, hf⟩ := it_g hf
    refine r_iast C hw 14 (f := (Tm 14)) rfl hi1 (ws' := (gcM g zm (u2 Tm 14 x3.toNatClampNeg x4))) gcM_a14 dX11_layRests_100 (fun H locs hw => ?_)
    refine lv_iinc (v := (x3 + (-1 : Int32))) (lv' := [(3, .int (x3 + (-1 : Int32))), (0, .ref (zm 0)), (1, .int x1), (2, .int x2), (4, .int x4), (5, .int x5)]) hx hb dX11_layRests_101 hl (k := 3) rfl rfl (by decide) rfl (fun ls hl => ?_)
    refine lv_goto (tgt := 9) hx hb dX11_layRests_104 (by decide) ?_
    exact hr9 _ _ _ _ _ _ _ hf hw (lv_sub hl [1, 2, 3, 0] rfl)
  · have hf := it_n hf hc7
    refine lv_iload_n hx hb dX11_layRests_44 rfl (lv_at hl 3 rfl) ?_
    obtain ⟨r2, hc3, hf⟩ := bd1_e hf
    refine r_callSi0 C hw (c_X11_bits hc3) md_X11_bits [] rfl rfl q5_232 ⟨Nat.le_of_ble_eq_true rfl, Nat.le_of_ble_eq_true rfl⟩ ⟨Nat.zero_le _, Nat.zero_le _⟩ hl.1 rfl rfl (Nat.le_of_ble_eq_true rfl) dX11_layRests_45 (fun H locs hw => ?_)
    refine lv_aload_n hx hb dX11_layRests_48 rfl (lv_at hl 0 rfl) ?_
    refine r_get C hw 0 rfl cf_X11 6 (by decide) q4_179 (v := .int (Tm 0 6)) rfl dX11_layRests_49 ?_
    refine lv_icmp_ge (tgt := 67) hx hb dX11_layRests_52 (by decide) (fun hc6 => ?_) (fun hc6 => ?_)
    · have hf := it_p hf hc6
      refine lv_ldc (v := (268435456 : Int32)) hx hb hown (hts _ q5_216) dX11_layRests_67 ?_
      exact kX11_layRests_69 (zm := zm) (r := r) (om := om) C hr9 hr35 hf hw (lv_sub hl [0, 1, 2, 3, 4, 5] rfl)
    · have hf := it_n hf hc6
      refine lv_aload_n hx hb dX11_layRests_55 rfl (lv_at hl 0 rfl) ?_
      refine lv_iload_n hx hb dX11_layRests_56 rfl (lv_at hl 3 rfl) ?_
      refine lv_iload hx hb dX11_layRests_57 (lv_at hl 5 rfl) ?_
      refine lv_iload_n hx hb dX11_layRests_59 rfl (lv_at hl 1 rfl) ?_
      refine lv_iload_n hx hb dX11_layRests_60 rfl (lv_at hl 2 rfl) ?_
      obtain ⟨r4, hc5, hf⟩ := bd1_e hf
      refine r_callVi0 C hw (c_X11_harmBy (zm := zm) hc5) md_X11_harmBy [0, 1, 2, 3, 4, 5, 6, 7, 8, 9, 10, 11, 12, 13, 14, 15, 16, 17, 18] rfl rfl q5_235 0 rfl cf_X11.1 ⟨Nat.le_of_ble_eq_true rfl, Nat.le_of_ble_eq_true rfl⟩ ⟨Nat.zero_le _, Nat.zero_le _⟩ hl.1 rfl rfl (Nat.le_of_ble_eq_true rfl) dX11_layRests_61 (fun H locs hw => ?_)
      refine lv_goto (tgt := 69) hx hb dX11_layRests_64 (by decide) ?_
      exact kX11_layRests_69 (zm := zm) (r := r) (om := om) C hr9 hr35 hf hw (lv_sub hl [0, 1, 2, 3, 4, 5] rfl)
set_option maxRecDepth 100000 in
set_option maxHeartbeats 4000000 in
theorem klX11_layRests_35 {l : Launch} {g : evG} {p : Program} {e : Env} {s : State} {m : MethodId} {args : Array Value} {below : List Frame} {meth : Method} {c : Code} {A : Nat → Prop} {zm : Nat → Nat} {r : Int32} {om : Gp} (C : ctx g p s m args meth c RX11 cX11_layRests 7 (some .int) A) {rec9 : Gp → Int32 → Int32 → Int32 → Option (Int32 × Gp)} (hr9 : ∀ (Tm : Gp) (x1 : Int32) (x2 : Int32) (x3 : Int32) (H : Heap) (locs : List Loc) (ls : Array Slot), rec9 Tm x1 x2 x3 = some (r, om) → wl g A s.heap (gcM g zm Tm) H locs → lv_has ls 7 [(0, .ref (zm 0)), (1, .int x1), (2, .int x2), (3, .int x3)] → W p l e (rmK 2 48) s m args below meth c H locs 0 0 (MQ below (Qi g A (gcM g zm om) r) args s 0 0 A) (F0 m 9 ls [])) : ∀ (n : Nat) (Tm : Gp) (x1 : Int32) (x2 : Int32) (x3 : Int32) (x4 : Int32) (x5 : Int32) (H : Heap) (locs : List Loc) (ls : Array Slot), lX11_layRests_35 rec9 n Tm x1 x2 x3 x4 x5 = some (r, om) → wl g A s.heap (gcM g zm Tm) H locs → lv_has ls 7 [(0, .ref (zm 0)), (1, .int x1), (2, .int x2), (3, .int x3), (4, .int x4), (5, .int x5)] → W p l e (rmK 2 48) s m args below meth c H locs 0 0 (MQ below (Qi g A (gcM g zm om) r) args s 0 0 A) (F0 m 35 ls []) := by
  intro n
  induction n with
  | zero => intro _ _ _ _ _ _ _ _ _ hf; exact no_f hf
  | succ n ih => intro _ _ _ _ _ _ _ _ _ hf hw hl; exact kX11_layRests_35 (zm := zm) (r := r) (om := om) C hr9 (rec35 := lX11_layRests_35 rec9 n) ih hf hw hl
set_option maxRecDepth 100000 in
set_option maxHeartbeats 4000000 in
theorem kX11_layRests_9 {l : Launch} {g : evG} {p : Program} {e : Env} {s : State} {m : MethodId} {args : Array Value} {below : List Frame} {meth : Method} {c : Code} {A : Nat → Prop} {zm : Nat → Nat} {r : Int32} {om : Gp} (C : ctx g p s m args meth c RX11 cX11_layRests 7 (some .int) A) {rec9 : Gp → Int32 → Int32 → Int32 → Option (Int32 × Gp)} (hr9 : ∀ (Tm : Gp) (x1 : Int32) (x2 : Int32) (x3 : Int32) (H : Heap) (locs : List Loc) (ls : Array Slot), rec9 Tm x1 x2 x3 = some (r, om) → wl g A s.heap (gcM g zm Tm) H locs → lv_has ls 7 [(0, .ref (zm 0)), (1, .int x1), (2, .int x2), (3, .int x3)] → W p l e (rmK 2 48) s m args below meth c H locs 0 0 (MQ below (Qi g A (gcM g zm om) r) args s 0 0 A) (F0 m 9 ls [])) {Tm : Gp} {x1 : Int32} {x2 : Int32} {x3 : Int32} {H : Heap} {locs : List Loc} {ls : Array Slot} (hf : fX11_layRests_9 rec9 Tm x1 x2 x3 = some (r, om)) (hw : wl g A s.heap (gcM g zm Tm) H locs) (hl : lv_has ls 7 [(0, .ref (zm 0)), (1, .int x1), (2, .int x2), (3, .int x3)]) : W p l e (rmK 2 48) s m args below meth c H locs 0 0 (MQ below (Qi g A (gcM g zm om) r) args s 0 0 A) (F0 m 9 ls []) := by
  obtain ⟨hx, hb, hml, hown, hts, -⟩ := id C
  unfold fX11_layRests_9 at hf
  refine lv_iload_n hx hb dX11_layRests_9 rfl (lv_at hl 3 rfl) ?_
  refine lv_if_lt (tgt := 107) hx hb dX11_layRests_10 (by decide) (fun hc4 => ?_) (fun hc4 => ?_)
  · have hf := it_p hf hc4
    refine lv_aload_n hx hb dX11_layRests_107 rfl (lv_at hl 0 rfl) ?_
    refine r_get C hw 0 rfl cf_X11 25 (by decide) q4_198 (v := .ref (zm 14)) rfl dX11_layRests_108 ?_
    refine lv_iconst (v := (0 : Int32)) hx hb dX11_layRests_111 rfl ?_
    refine r_iald C hw 14 (f := (Tm 14)) rfl (by decide) dX11_layRests_112 ?_
    obtain ⟨rfl, rfl⟩ := so2 hf
    exact r_iret C hw rfl dX11_layRests_113
  · have hf := it_n hf hc4
    refine lv_iload_n hx hb dX11_layRests_13 rfl (lv_at hl 3 rfl) ?_
    obtain ⟨r1, hc2, hf⟩ := bd1_e hf
    refine r_callSi0 C hw (c_X11_bits hc2) md_X11_bits [] rfl rfl q5_232 ⟨Nat.le_of_ble_eq_true rfl, Nat.le_of_ble_eq_true rfl⟩ ⟨Nat.zero_le _, Nat.zero_le _⟩ hl.1 rfl rfl (Nat.le_of_ble_eq_true rfl) dX11_layRests_14 (fun H locs hw => ?_)
    refine lv_aload_n hx hb dX11_layRests_17 rfl (lv_at hl 0 rfl) ?_
    refine r_get C hw 0 rfl cf_X11 6 (by decide) q4_179 (v := .int (Tm 0 6)) rfl dX11_layRests_18 ?_
    refine lv_icmp_ne (tgt := 28) hx hb dX11_layRests_21 (by decide) (fun hc3 => ?_) (fun hc3 => ?_)
    · have hf := it_n hf hc3
      refine lv_ldc (v := (268435456 : Int32)) hx hb hown (hts _ q5_216) dX11_layRests_28 ?_
      refine lv_istore (lv' := [(4, .int (268435456 : Int32)), (0, .ref (zm 0)), (1, .int x1), (2, .int x2), (3, .int x3)]) hx hb dX11_layRests_30 hl (by decide) rfl (fun ls hl => ?_)
      refine lv_iconst (v := (0 : Int32)) hx hb dX11_layRests_32 rfl ?_
      refine lv_istore (lv' := [(5, .int (0 : Int32)), (4, .int (268435456 : Int32)), (0, .ref (zm 0)), (1, .int x1), (2, .int x2), (3, .int x3)]) hx hb dX11_layRests_33 hl (by decide) rfl (fun ls hl => ?_)
      exact klX11_layRests_35 (zm := zm) (r := r) (om := om) C hr9 fu _ _ _ _ _ _ _ _ _ hf hw (lv_sub hl [2, 3, 4, 5, 1, 0] rfl)
    · have hf := it_p hf hc3
      refine lv_iconst (v := (0 : Int32)) hx hb dX11_layRests_24 rfl ?_
      refine lv_goto (tgt := 30) hx hb dX11_layRests_25 (by decide) ?_
      refine lv_istore (lv' := [(4, .int (0 : Int32)), (0, .ref (zm 0)), (1, .int x1), (2, .int x2), (3, .int x3)]) hx hb dX11_layRests_30 hl (by decide) rfl (fun ls hl => ?_)
      refine lv_iconst (v := (0 : Int32)) hx hb dX11_layRests_32 rfl ?_
      refine lv_istore (lv' := [(5, .int (0 : Int32)), (4, .int (0 : Int32)), (0, .ref (zm 0)), (1, .int x1), (2, .int x2), (3, .int x3)]) hx hb dX11_layRests_33 hl (by decide) rfl (fun ls hl => ?_)
      exact klX11_layRests_35 (zm := zm) (r := r) (om := om) C hr9 fu _ _ _ _ _ _ _ _ _ hf hw (lv_sub hl [2, 3, 4, 5, 1, 0] rfl)
set_option maxRecDepth 100000 in
set_option maxHeartbeats 4000000 in
theorem klX11_layRests_9 {l : Launch} {g : evG} {p : Program} {e : Env} {s : State} {m : MethodId} {args : Array Value} {below : List Frame} {meth : Method} {c : Code} {A : Nat → Prop} {zm : Nat → Nat} {r : Int32} {om : Gp} (C : ctx g p s m args meth c RX11 cX11_layRests 7 (some .int) A) : ∀ (n : Nat) (Tm : Gp) (x1 : Int32) (x2 : Int32) (x3 : Int32) (H : Heap) (locs : List Loc) (ls : Array Slot), lX11_layRests_9 n Tm x1 x2 x3 = some (r, om) → wl g A s.heap (gcM g zm Tm) H locs → lv_has ls 7 [(0, .ref (zm 0)), (1, .int x1), (2, .int x2), (3, .int x3)] → W p l e (rmK 2 48) s m args below meth c H locs 0 0 (MQ below (Qi g A (gcM g zm om) r) args s 0 0 A) (F0 m 9 ls []) := by
  intro n
  induction n with
  | zero => intro _ _ _ _ _ _ _ hf; exact no_f hf
  | succ n ih => intro _ _ _ _ _ _ _ hf hw hl; exact kX11_layRests_9 (zm := zm) (r := r) (om := om) C (rec9 := lX11_layRests_9 n) ih hf hw hl
set_option maxRecDepth 100000 in
set_option maxHeartbeats 4000000 in
theorem c_X11_layRests {l : Launch} {g : evG} {zm : Nat → Nat} {r : Int32} {om : Gp}  {Tm : Gp} {x1 : Int32} {x2 : Int32} (hf : fX11_layRests Tm x1 x2 = some (r, om)) : CTi l g yX11_layRests (Cond.code yX11_layRests cX11_layRests 7 (some .int)) 2 48 [.ref (zm 0), .int x1, .int x2] (gcM g zm Tm) (gcM g zm om) r := by
  refine ct_i rfl (Nat.le_of_ble_eq_true rfl) ?_
  intro p e s m args below meth c A ls C hw hl
  have C : ctx g p s m args meth c RX11 cX11_layRests 7 (some .int) A := C
  have hl : lv_has ls 7 [(0, .ref (zm 0)), (1, .int x1), (2, .int x2)] := hl
  obtain ⟨hx, hb, hml, hown, hts, -⟩ := id C
  unfold fX11_layRests at hf
  refine lv_iconst (v := (1 : Int32)) hx hb dX11_layRests_0 rfl ?_
  refine lv_aload_n hx hb dX11_layRests_1 rfl (lv_at hl 0 rfl) ?_
  refine r_get C hw 0 rfl cf_X11 6 (by decide) q4_179 (v := .int (Tm 0 6)) rfl dX11_layRests_2 ?_
  refine lv_ishl hx hb dX11_layRests_5 ?_
  refine lv_iconst (v := (1 : Int32)) hx hb dX11_layRests_6 rfl ?_
  refine lv_isub hx hb dX11_layRests_7 ?_
  refine lv_istore_n (lv' := [(3, .int (((1 : Int32) <<< ((Tm 0 6) &&& 31)) - (1 : Int32))), (0, .ref (zm 0)), (1, .int x1), (2, .int x2)]) hx hb dX11_layRests_8 rfl hl (by decide) rfl (fun ls hl => ?_)
  exact klX11_layRests_9 (zm := zm) (r := r) (om := om) C fu _ _ _ _ _ _ _ hf hw (lv_sub hl [1, 2, 3, 0] rfl)
set_option maxRecDepth 100000 in
set_option maxHeartbeats 4000000 in
theorem kX11_anew_40 {l : Launch} {g : evG} {p : Program} {e : Env} {s : State} {m : MethodId} {args : Array Value} {below : List Frame} {meth : Method} {c : Code} {A : Nat → Prop} {zm : Nat → Nat} {r : Int32} {om : Gp} (C : ctx g p s m args meth c RX11 cX11_anew 6 (some .int) A) {rec31 : Gp → Int32 → Int32 → Int32 → Int32 → Int32 → Option (Int32 × Gp)} {rec40 : Gp → Int32 → Int32 → Int32 → Int32 → Int32 → Option (Int32 × Gp)} (hr31 : ∀ (Tm : Gp) (x1 : Int32) (x2 : Int32) (x3 : Int32) (x4 : Int32) (x5 : Int32) (H : Heap) (locs : List Loc) (ls : Array Slot), rec31 Tm x1 x2 x3 x4 x5 = some (r, om) → wl g A s.heap (gcM g zm Tm) H locs → lv_has ls 6 [(0, .ref (zm 0)), (1, .int x1), (2, .int x2), (3, .int x3), (4, .int x4), (5, .int x5)] → W p l e (rmK 3 74) s m args below meth c H locs 0 0 (MQ below (Qi g A (gcM g zm om) r) args s 0 0 A) (F0 m 31 ls [])) (hr40 : ∀ (Tm : Gp) (x1 : Int32) (x2 : Int32) (x3 : Int32) (x4 : Int32) (x5 : Int32) (H : Heap) (locs : List Loc) (ls : Array Slot), rec40 Tm x1 x2 x3 x4 x5 = some (r, om) → wl g A s.heap (gcM g zm Tm) H locs → lv_has ls 6 [(0, .ref (zm 0)), (1, .int x1), (2, .int x2), (3, .int x3), (4, .int x4), (5, .int x5)] → W p l e (rmK 3 74) s m args below meth c H locs 0 0 (MQ below (Qi g A (gcM g zm om) r) args s 0 0 A) (F0 m 40 ls [])) {Tm : Gp} {x1 : Int32} {x2 : Int32} {x3 : Int32} {x4 : Int32} {x5 : Int32} {H : Heap} {locs : List Loc} {ls : Array Slot} (hf : fX11_anew_40 rec31 rec40 Tm x1 x2 x3 x4 x5 = some (r, om)) (hw : wl g A s.heap (gcM g zm Tm) H locs) (hl : lv_has ls 6 [(0, .ref (zm 0)), (1, .int x1), (2, .int x2), (3, .int x3), (4, .int x4), (5, .int x5)]) : W p l e (rmK 3 74) s m args below meth c H locs 0 0 (MQ below (Qi g A (gcM g zm om) r) args s 0 0 A) (F0 m 40 ls []) := by
  obtain ⟨hx, hb, hml, hown, hts, -⟩ := id C
  unfold fX11_anew_40 at hf
  refine lv_aload_n hx hb dX11_anew_40 rfl (lv_at hl 0 rfl) ?_
  refine lv_iload_n hx hb dX11_anew_41 rfl (lv_at hl 3 rfl) ?_
  refine lv_iload hx hb dX11_anew_42 (lv_at hl 4 rfl) ?_
  refine lv_iconst (v := (-1 : Int32)) hx hb dX11_anew_44 rfl ?_
  refine lv_iconst (v := (-1 : Int32)) hx hb dX11_anew_45 rfl ?_
  obtain ⟨r1, hc2, hf⟩ := bd1_e hf
  refine r_callVi0 C hw (c_X11_harmBy (zm := zm) hc2) md_X11_harmBy [0, 1, 2, 3, 4, 5, 6, 7, 8, 9, 10, 11, 12, 13, 14, 15, 16, 17, 18] rfl rfl q5_235 0 rfl cf_X11.1 ⟨Nat.le_of_ble_eq_true rfl, Nat.le_of_ble_eq_true rfl⟩ ⟨Nat.zero_le _, Nat.zero_le _⟩ hl.1 rfl rfl (Nat.le_of_ble_eq_true rfl) dX11_anew_46 (fun H locs hw => ?_)
  refine lv_aload_n hx hb dX11_anew_49 rfl (lv_at hl 0 rfl) ?_
  refine r_get C hw 0 rfl cf_X11 25 (by decide) q4_198 (v := .ref (zm 14)) rfl dX11_anew_50 ?_
  refine lv_iload_n hx hb dX11_anew_53 rfl (lv_at hl 3 rfl) ?_
  obtain ⟨hi3, hf⟩ := it_g hf
  refine r_iald C hw 14 (f := (Tm 14)) rfl hi3 dX11_anew_54 ?_
  refine lv_icmp_eq (tgt := 64) hx hb dX11_anew_55 (by decide) (fun hc4 => ?_) (fun hc4 => ?_)
  · have hf := it_p hf hc4
    refine lv_iload_n hx hb dX11_anew_64 rfl (lv_at hl 3 rfl) ?_
    refine lv_iconst (v := (1 : Int32)) hx hb dX11_anew_65 rfl ?_
    refine lv_iload hx hb dX11_anew_66 (lv_at hl 4 rfl) ?_
    refine lv_ishl hx hb dX11_anew_68 ?_
    refine lv_ior hx hb dX11_anew_69 ?_
    refine lv_istore_n (lv' := [(3, .int (x3 ||| ((1 : Int32) <<< (x4 &&& 31)))), (0, .ref (zm 0)), (1, .int x1), (2, .int x2), (4, .int x4), (5, .int x5)]) hx hb dX11_anew_70 rfl hl (by decide) rfl (fun ls hl => ?_)
    refine lv_iinc (v := (x5 + (1 : Int32))) (lv' := [(5, .int (x5 + (1 : Int32))), (3, .int (x3 ||| ((1 : Int32) <<< (x4 &&& 31)))), (0, .ref (zm 0)), (1, .int x1), (2, .int x2), (4, .int x4)]) hx hb dX11_anew_71 hl (k := 5) rfl rfl (by decide) rfl (fun ls hl => ?_)
    refine lv_goto (tgt := 31) hx hb dX11_anew_74 (by decide) ?_
    exact hr31 _ _ _ _ _ _ _ _ _ hf hw (lv_sub hl [2, 3, 4, 1, 5, 0] rfl)
  · have hf := it_n hf hc4
    refine lv_iinc (v := (x4 + (1 : Int32))) (lv' := [(4, .int (x4 + (1 : Int32))), (0, .ref (zm 0)), (1, .int x1), (2, .int x2), (3, .int x3), (5, .int x5)]) hx hb dX11_anew_58 hl (k := 4) rfl rfl (by decide) rfl (fun ls hl => ?_)
    refine lv_goto (tgt := 40) hx hb dX11_anew_61 (by decide) ?_
    exact hr40 _ _ _ _ _ _ _ _ _ hf hw (lv_sub hl [1, 2, 3, 4, 0, 5] rfl)
set_option maxRecDepth 100000 in
set_option maxHeartbeats 4000000 in
theorem klX11_anew_40 {l : Launch} {g : evG} {p : Program} {e : Env} {s : State} {m : MethodId} {args : Array Value} {below : List Frame} {meth : Method} {c : Code} {A : Nat → Prop} {zm : Nat → Nat} {r : Int32} {om : Gp} (C : ctx g p s m args meth c RX11 cX11_anew 6 (some .int) A) {rec31 : Gp → Int32 → Int32 → Int32 → Int32 → Int32 → Option (Int32 × Gp)} (hr31 : ∀ (Tm : Gp) (x1 : Int32) (x2 : Int32) (x3 : Int32) (x4 : Int32) (x5 : Int32) (H : Heap) (locs : List Loc) (ls : Array Slot), rec31 Tm x1 x2 x3 x4 x5 = some (r, om) → wl g A s.heap (gcM g zm Tm) H locs → lv_has ls 6 [(0, .ref (zm 0)), (1, .int x1), (2, .int x2), (3, .int x3), (4, .int x4), (5, .int x5)] → W p l e (rmK 3 74) s m args below meth c H locs 0 0 (MQ below (Qi g A (gcM g zm om) r) args s 0 0 A) (F0 m 31 ls [])) : ∀ (n : Nat) (Tm : Gp) (x1 : Int32) (x2 : Int32) (x3 : Int32) (x4 : Int32) (x5 : Int32) (H : Heap) (locs : List Loc) (ls : Array Slot), lX11_anew_40 rec31 n Tm x1 x2 x3 x4 x5 = some (r, om) → wl g A s.heap (gcM g zm Tm) H locs → lv_has ls 6 [(0, .ref (zm 0)), (1, .int x1), (2, .int x2), (3, .int x3), (4, .int x4), (5, .int x5)] → W p l e (rmK 3 74) s m args below meth c H locs 0 0 (MQ below (Qi g A (gcM g zm om) r) args s 0 0 A) (F0 m 40 ls []) := by
  intro n
  induction n with
  | zero => intro _ _ _ _ _ _ _ _ _ hf; exact no_f hf
  | succ n ih => intro _ _ _ _ _ _ _ _ _ hf hw hl; exact kX11_anew_40 (zm := zm) (r := r) (om := om) C hr31 (rec40 := lX11_anew_40 rec31 n) ih hf hw hl
set_option maxRecDepth 100000 in
set_option maxHeartbeats 4000000 in
theorem kX11_anew_31 {l : Launch} {g : evG} {p : Program} {e : Env} {s : State} {m : MethodId} {args : Array Value} {below : List Frame} {meth : Method} {c : Code} {A : Nat → Prop} {zm : Nat → Nat} {r : Int32} {om : Gp} (C : ctx g p s m args meth c RX11 cX11_anew 6 (some .int) A) {rec31 : Gp → Int32 → Int32 → Int32 → Int32 → Int32 → Option (Int32 × Gp)} (hr31 : ∀ (Tm : Gp) (x1 : Int32) (x2 : Int32) (x3 : Int32) (x4 : Int32) (x5 : Int32) (H : Heap) (locs : List Loc) (ls : Array Slot), rec31 Tm x1 x2 x3 x4 x5 = some (r, om) → wl g A s.heap (gcM g zm Tm) H locs → lv_has ls 6 [(0, .ref (zm 0)), (1, .int x1), (2, .int x2), (3, .int x3), (4, .int x4), (5, .int x5)] → W p l e (rmK 3 74) s m args below meth c H locs 0 0 (MQ below (Qi g A (gcM g zm om) r) args s 0 0 A) (F0 m 31 ls [])) {Tm : Gp} {x1 : Int32} {x2 : Int32} {x3 : Int32} {x4 : Int32} {x5 : Int32} {H : Heap} {locs : List Loc} {ls : Array Slot} (hf : fX11_anew_31 rec31 Tm x1 x2 x3 x4 x5 = some (r, om)) (hw : wl g A s.heap (gcM g zm Tm) H locs) (hl : lv_has ls 6 [(0, .ref (zm 0)), (1, .int x1), (2, .int x2), (3, .int x3), (4, .int x4), (5, .int x5)]) : W p l e (rmK 3 74) s m args below meth c H locs 0 0 (MQ below (Qi g A (gcM g zm om) r) args s 0 0 A) (F0 m 31 ls []) := by
  obtain ⟨hx, hb, hml, hown, hts, -⟩ := id C
  unfold fX11_anew_31 at hf
  refine lv_iload hx hb dX11_anew_31 (lv_at hl 5 rfl) ?_
  refine lv_iload_n hx hb dX11_anew_33 rfl (lv_at hl 1 rfl) ?_
  refine lv_icmp_gt (tgt := 77) hx hb dX11_anew_34 (by decide) (fun hc2 => ?_) (fun hc2 => ?_)
  · have hf := it_p hf hc2
    refine lv_iload_n hx hb dX11_anew_77 rfl (lv_at hl 1 rfl) ?_
    refine lv_iconst (v := (-1 : Int32)) hx hb dX11_anew_78 rfl ?_
    refine lv_icmp_ne (tgt := 86) hx hb dX11_anew_79 (by decide) (fun hc1 => ?_) (fun hc1 => ?_)
    · have hf := it_n hf hc1
      refine lv_iload hx hb dX11_anew_86 (lv_at hl 4 rfl) ?_
      obtain ⟨rfl, rfl⟩ := so2 hf
      exact r_iret C hw rfl dX11_anew_88
    · have hf := it_p hf hc1
      refine lv_iload_n hx hb dX11_anew_82 rfl (lv_at hl 2 rfl) ?_
      refine lv_goto (tgt := 88) hx hb dX11_anew_83 (by decide) ?_
      obtain ⟨rfl, rfl⟩ := so2 hf
      exact r_iret C hw rfl dX11_anew_88
  · have hf := it_n hf hc2
    refine lv_iconst (v := (0 : Int32)) hx hb dX11_anew_37 rfl ?_
    refine lv_istore (lv' := [(4, .int (0 : Int32)), (0, .ref (zm 0)), (1, .int x1), (2, .int x2), (3, .int x3), (5, .int x5)]) hx hb dX11_anew_38 hl (by decide) rfl (fun ls hl => ?_)
    exact klX11_anew_40 (zm := zm) (r := r) (om := om) C hr31 fu _ _ _ _ _ _ _ _ _ hf hw (lv_sub hl [1, 2, 3, 4, 0, 5] rfl)
set_option maxRecDepth 100000 in
set_option maxHeartbeats 4000000 in
theorem klX11_anew_31 {l : Launch} {g : evG} {p : Program} {e : Env} {s : State} {m : MethodId} {args : Array Value} {below : List Frame} {meth : Method} {c : Code} {A : Nat → Prop} {zm : Nat → Nat} {r : Int32} {om : Gp} (C : ctx g p s m args meth c RX11 cX11_anew 6 (some .int) A) : ∀ (n : Nat) (Tm : Gp) (x1 : Int32) (x2 : Int32) (x3 : Int32) (x4 : Int32) (x5 : Int32) (H : Heap) (locs : List Loc) (ls : Array Slot), lX11_anew_31 n Tm x1 x2 x3 x4 x5 = some (r, om) → wl g A s.heap (gcM g zm Tm) H locs → lv_has ls 6 [(0, .ref (zm 0)), (1, .int x1), (2, .int x2), (3, .int x3), (4, .int x4), (5, .int x5)] → W p l e (rmK 3 74) s m args below meth c H locs 0 0 (MQ below (Qi g A (gcM g zm om) r) args s 0 0 A) (F0 m 31 ls []) := by
  intro n
  induction n with
  | zero => intro _ _ _ _ _ _ _ _ _ hf; exact no_f hf
  | succ n ih => intro _ _ _ _ _ _ _ _ _ hf hw hl; exact kX11_anew_31 (zm := zm) (r := r) (om := om) C (rec31 := lX11_anew_31 n) ih hf hw hl
set_option maxRecDepth 100000 in
set_option maxHeartbeats 4000000 in
theorem kX11_anew_16 {l : Launch} {g : evG} {p : Program} {e : Env} {s : State} {m : MethodId} {args : Array Value} {below : List Frame} {meth : Method} {c : Code} {A : Nat → Prop} {zm : Nat → Nat} {r : Int32} {om : Gp} (C : ctx g p s m args meth c RX11 cX11_anew 6 (some .int) A) {Tm : Gp} {x1 : Int32} {H : Heap} {locs : List Loc} {ls : Array Slot} (hf : fX11_anew_16 Tm x1 = some (r, om)) (hw : wl g A s.heap (gcM g zm Tm) H locs) (hl : lv_has ls 6 [(0, .ref (zm 0)), (1, .int x1)]) : W p l e (rmK 3 74) s m args below meth c H locs 0 0 (MQ below (Qi g A (gcM g zm om) r) args s 0 0 A) (F0 m 16 ls []) := by
  obtain ⟨hx, hb, hml, hown, hts, -⟩ := id C
  unfold fX11_anew_16 at hf
  refine lv_aload_n hx hb dX11_anew_16 rfl (lv_at hl 0 rfl) ?_
  refine lv_iconst (v := (-1 : Int32)) hx hb dX11_anew_17 rfl ?_
  refine lv_iconst (v := (-1 : Int32)) hx hb dX11_anew_18 rfl ?_
  obtain ⟨r1, Tm_2, hc3, hf⟩ := bd2_e hf
  refine r_callViF C hw (c_X11_layRests (zm := zm) hc3) md_X11_layRests [0, 1, 2, 3, 4, 5, 6, 7, 8, 9, 10, 11, 12, 13, 14, 15, 16, 17, 18] rfl rfl rfl rfl q5_228 0 rfl cf_X11.1 ⟨Nat.le_of_ble_eq_true rfl, Nat.le_of_ble_eq_true rfl⟩ ⟨Nat.zero_le _, Nat.zero_le _⟩ hl.1 rfl rfl (Nat.le_of_ble_eq_true rfl) dX11_anew_19 (fun H locs hw => ?_)
  refine lv_istore_n (lv' := [(2, .int r1), (0, .ref (zm 0)), (1, .int x1)]) hx hb dX11_anew_22 rfl hl (by decide) rfl (fun ls hl => ?_)
  refine lv_iconst (v := (0 : Int32)) hx hb dX11_anew_23 rfl ?_
  refine lv_istore_n (lv' := [(3, .int (0 : Int32)), (2, .int r1), (0, .ref (zm 0)), (1, .int x1)]) hx hb dX11_anew_24 rfl hl (by decide) rfl (fun ls hl => ?_)
  refine lv_iconst (v := (-1 : Int32)) hx hb dX11_anew_25 rfl ?_
  refine lv_istore (lv' := [(4, .int (-1 : Int32)), (3, .int (0 : Int32)), (2, .int r1), (0, .ref (zm 0)), (1, .int x1)]) hx hb dX11_anew_26 hl (by decide) rfl (fun ls hl => ?_)
  refine lv_iconst (v := (0 : Int32)) hx hb dX11_anew_28 rfl ?_
  refine lv_istore (lv' := [(5, .int (0 : Int32)), (4, .int (-1 : Int32)), (3, .int (0 : Int32)), (2, .int r1), (0, .ref (zm 0)), (1, .int x1)]) hx hb dX11_anew_29 hl (by decide) rfl (fun ls hl => ?_)
  exact klX11_anew_31 (zm := zm) (r := r) (om := om) C fu _ _ _ _ _ _ _ _ _ hf hw (lv_sub hl [4, 5, 3, 2, 1, 0] rfl)
set_option maxRecDepth 100000 in
set_option maxHeartbeats 4000000 in
theorem c_X11_anew {l : Launch} {g : evG} {zm : Nat → Nat} {r : Int32} {om : Gp}  {Tm : Gp} {x1 : Int32} (hf : fX11_anew Tm x1 = some (r, om)) : CTi l g yX11_anew (Cond.code yX11_anew cX11_anew 6 (some .int)) 3 74 [.ref (zm 0), .int x1] (gcM g zm Tm) (gcM g zm om) r := by
  refine ct_i rfl (Nat.le_of_ble_eq_true rfl) ?_
  intro p e s m args below meth c A ls C hw hl
  have C : ctx g p s m args meth c RX11 cX11_anew 6 (some .int) A := C
  have hl : lv_has ls 6 [(0, .ref (zm 0)), (1, .int x1)] := hl
  obtain ⟨hx, hb, hml, hown, hts, -⟩ := id C
  unfold fX11_anew at hf
  refine lv_iload_n hx hb dX11_anew_0 rfl (lv_at hl 1 rfl) ?_
  refine lv_iconst (v := (-1 : Int32)) hx hb dX11_anew_1 rfl ?_
  refine lv_icmp_eq (tgt := 16) hx hb dX11_anew_2 (by decide) (fun hc4 => ?_) (fun hc4 => ?_)
  · have hf := it_p hf hc4
    exact kX11_anew_16 (zm := zm) (r := r) (om := om) C hf hw (lv_sub hl [0, 1] rfl)
  · have hf := it_n hf hc4
    refine lv_aload_n hx hb dX11_anew_5 rfl (lv_at hl 0 rfl) ?_
    refine lv_iload_n hx hb dX11_anew_6 rfl (lv_at hl 1 rfl) ?_
    obtain ⟨r1, hc2, hf⟩ := bd1_e hf
    refine r_callVi0 C hw (c_X11_isPair (zm := zm) hc2) md_X11_isPair [0, 1, 2, 3, 4, 5, 6, 7, 8, 9, 10, 11, 12, 13, 14, 15, 16, 17, 18] rfl rfl q5_110 0 rfl cf_X11.1 ⟨Nat.le_of_ble_eq_true rfl, Nat.le_of_ble_eq_true rfl⟩ ⟨Nat.zero_le _, Nat.zero_le _⟩ hl.1 rfl rfl (Nat.le_of_ble_eq_true rfl) dX11_anew_7 (fun H locs hw => ?_)
    refine lv_if_ne (tgt := 16) hx hb dX11_anew_10 (by decide) (fun hc3 => ?_) (fun hc3 => ?_)
    · have hf := it_n hf hc3
      exact kX11_anew_16 (zm := zm) (r := r) (om := om) C hf hw (lv_sub hl [0, 1] rfl)
    · have hf := it_p hf hc3
      refine lv_bipush (v := (-2 : Int32)) hx hb dX11_anew_13 rfl ?_
      obtain ⟨rfl, rfl⟩ := so2 hf
      exact r_iret C hw rfl dX11_anew_15
set_option maxRecDepth 100000 in
set_option maxHeartbeats 4000000 in
theorem c_X11_forced {l : Launch} {g : evG} {zm : Nat → Nat} {r : Int32} {om : Gp}  {Tm : Gp} {x1 : Int32} {x2 : Int32} (hf : fX11_forced Tm x1 x2 = some (r, om)) : CTi l g yX11_forced (Cond.code yX11_forced cX11_forced 3 (some .int)) 3 74 [.ref (zm 0), .int x1, .int x2] (gcM g zm Tm) (gcM g zm om) r := by
  refine ct_i rfl (Nat.le_of_ble_eq_true rfl) ?_
  intro p e s m args below meth c A ls C hw hl
  have C : ctx g p s m args meth c RX11 cX11_forced 3 (some .int) A := C
  have hl : lv_has ls 3 [(0, .ref (zm 0)), (1, .int x1), (2, .int x2)] := hl
  obtain ⟨hx, hb, hml, hown, hts, -⟩ := id C
  unfold fX11_forced at hf
  refine lv_aload_n hx hb dX11_forced_0 rfl (lv_at hl 0 rfl) ?_
  refine lv_iload_n hx hb dX11_forced_1 rfl (lv_at hl 1 rfl) ?_
  obtain ⟨r1, hc2, hf⟩ := bd1_e hf
  refine r_callVi0 C hw (c_X11_isPair (zm := zm) hc2) md_X11_isPair [0, 1, 2, 3, 4, 5, 6, 7, 8, 9, 10, 11, 12, 13, 14, 15, 16, 17, 18] rfl rfl q5_110 0 rfl cf_X11.1 ⟨Nat.le_of_ble_eq_true rfl, Nat.le_of_ble_eq_true rfl⟩ ⟨Nat.zero_le _, Nat.zero_le _⟩ hl.1 rfl rfl (Nat.le_of_ble_eq_true rfl) dX11_forced_2 (fun H locs hw => ?_)
  refine lv_if_eq (tgt := 25) hx hb dX11_forced_5 (by decide) (fun hc9 => ?_) (fun hc9 => ?_)
  · have hf := it_p hf hc9
    refine lv_bipush (v := (-2 : Int32)) hx hb dX11_forced_25 rfl ?_
    obtain ⟨rfl, rfl⟩ := so2 hf
    exact r_iret C hw rfl dX11_forced_27
  · have hf := it_n hf hc9
    refine lv_aload_n hx hb dX11_forced_8 rfl (lv_at hl 0 rfl) ?_
    refine lv_iload_n hx hb dX11_forced_9 rfl (lv_at hl 2 rfl) ?_
    obtain ⟨r3, hc4, hf⟩ := bd1_e hf
    refine r_callVi0 C hw (c_X11_isPair (zm := zm) hc4) md_X11_isPair [0, 1, 2, 3, 4, 5, 6, 7, 8, 9, 10, 11, 12, 13, 14, 15, 16, 17, 18] rfl rfl q5_110 0 rfl cf_X11.1 ⟨Nat.le_of_ble_eq_true rfl, Nat.le_of_ble_eq_true rfl⟩ ⟨Nat.zero_le _, Nat.zero_le _⟩ hl.1 rfl rfl (Nat.le_of_ble_eq_true rfl) dX11_forced_10 (fun H locs hw => ?_)
    refine lv_if_eq (tgt := 25) hx hb dX11_forced_13 (by decide) (fun hc8 => ?_) (fun hc8 => ?_)
    · have hf := it_p hf hc8
      refine lv_bipush (v := (-2 : Int32)) hx hb dX11_forced_25 rfl ?_
      obtain ⟨rfl, rfl⟩ := so2 hf
      exact r_iret C hw rfl dX11_forced_27
    · have hf := it_n hf hc8
      refine lv_aload_n hx hb dX11_forced_16 rfl (lv_at hl 0 rfl) ?_
      refine lv_iload_n hx hb dX11_forced_17 rfl (lv_at hl 1 rfl) ?_
      refine lv_iload_n hx hb dX11_forced_18 rfl (lv_at hl 2 rfl) ?_
      obtain ⟨r5, Tm_6, hc7, hf⟩ := bd2_e hf
      refine r_callViF C hw (c_X11_layRests (zm := zm) hc7) md_X11_layRests [0, 1, 2, 3, 4, 5, 6, 7, 8, 9, 10, 11, 12, 13, 14, 15, 16, 17, 18] rfl rfl rfl rfl q5_228 0 rfl cf_X11.1 ⟨Nat.le_of_ble_eq_true rfl, Nat.le_of_ble_eq_true rfl⟩ ⟨Nat.zero_le _, Nat.zero_le _⟩ hl.1 rfl rfl (Nat.le_of_ble_eq_true rfl) dX11_forced_19 (fun H locs hw => ?_)
      refine lv_goto (tgt := 27) hx hb dX11_forced_22 (by decide) ?_
      obtain ⟨rfl, rfl⟩ := so2 hf
      exact r_iret C hw rfl dX11_forced_27
set_option maxRecDepth 100000 in
set_option maxHeartbeats 4000000 in
theorem c_X11_like {l : Launch} {g : evG} {zm : Nat → Nat} {r : Int32} {om : Gp}  {Tm : Gp} {x1 : Int32} {x2 : Int32} {x3 : Int32} {x4 : Int32} (hf : fX11_like Tm x1 x2 x3 x4 = some (r, om)) : CTi l g yX11_like (Cond.code yX11_like cX11_like 6 (some .int)) 2 46 [.ref (zm 0), .int x1, .int x2, .int x3, .int x4] (gcM g zm Tm) (gcM g zm om) r := by
  refine ct_i rfl (Nat.le_of_ble_eq_true rfl) ?_
  intro p e s m args below meth c A ls C hw hl
  have C : ctx g p s m args meth c RX11 cX11_like 6 (some .int) A := C
  have hl : lv_has ls 6 [(0, .ref (zm 0)), (1, .int x1), (2, .int x2), (3, .int x3), (4, .int x4)] := hl
  obtain ⟨hx, hb, hml, hown, hts, -⟩ := id C
  unfold fX11_like at hf
  refine lv_iload_n hx hb dX11_like_0 rfl (lv_at hl 1 rfl) ?_
  obtain ⟨r1, hc2, hf⟩ := bd1_e hf
  refine r_callSi0 C hw (c_X11_isValley hc2) md_X11_isValley [] rfl rfl q5_107 ⟨Nat.le_of_ble_eq_true rfl, Nat.le_of_ble_eq_true rfl⟩ ⟨Nat.zero_le _, Nat.zero_le _⟩ hl.1 rfl rfl (Nat.le_of_ble_eq_true rfl) dX11_like_1 (fun H locs hw => ?_)
  refine lv_if_eq (tgt := 23) hx hb dX11_like_4 (by decide) (fun hc16 => ?_) (fun hc16 => ?_)
  · have hf := it_p hf hc16
    refine lv_bipush (v := (-2 : Int32)) hx hb dX11_like_23 rfl ?_
    obtain ⟨rfl, rfl⟩ := so2 hf
    exact r_iret C hw rfl dX11_like_25
  · have hf := it_n hf hc16
    refine lv_aload_n hx hb dX11_like_7 rfl (lv_at hl 0 rfl) ?_
    refine lv_iload_n hx hb dX11_like_8 rfl (lv_at hl 2 rfl) ?_
    obtain ⟨r3, hc4, hf⟩ := bd1_e hf
    refine r_callVi0 C hw (c_X11_isPair (zm := zm) hc4) md_X11_isPair [0, 1, 2, 3, 4, 5, 6, 7, 8, 9, 10, 11, 12, 13, 14, 15, 16, 17, 18] rfl rfl q5_110 0 rfl cf_X11.1 ⟨Nat.le_of_ble_eq_true rfl, Nat.le_of_ble_eq_true rfl⟩ ⟨Nat.zero_le _, Nat.zero_le _⟩ hl.1 rfl rfl (Nat.le_of_ble_eq_true rfl) dX11_like_9 (fun H locs hw => ?_)
    refine lv_if_eq (tgt := 23) hx hb dX11_like_12 (by decide) (fun hc15 => ?_) (fun hc15 => ?_)
    · have hf := it_p hf hc15
      refine lv_bipush (v := (-2 : Int32)) hx hb dX11_like_23 rfl ?_
      obtain ⟨rfl, rfl⟩ := so2 hf
      exact r_iret C hw rfl dX11_like_25
    · have hf := it_n hf hc15
      refine lv_aload_n hx hb dX11_like_15 rfl (lv_at hl 0 rfl) ?_
      refine lv_iload_n hx hb dX11_like_16 rfl (lv_at hl 3 rfl) ?_
      obtain ⟨r5, hc6, hf⟩ := bd1_e hf
      refine r_callVi0 C hw (c_X11_isPair (zm := zm) hc6) md_X11_isPair [0, 1, 2, 3, 4, 5, 6, 7, 8, 9, 10, 11, 12, 13, 14, 15, 16, 17, 18] rfl rfl q5_110 0 rfl cf_X11.1 ⟨Nat.le_of_ble_eq_true rfl, Nat.le_of_ble_eq_true rfl⟩ ⟨Nat.zero_le _, Nat.zero_le _⟩ hl.1 rfl rfl (Nat.le_of_ble_eq_true rfl) dX11_like_17 (fun H locs hw => ?_)
      refine lv_if_ne (tgt := 26) hx hb dX11_like_20 (by decide) (fun hc14 => ?_) (fun hc14 => ?_)
      · have hf := it_n hf hc14
        refine lv_iload_n hx hb dX11_like_26 rfl (lv_at hl 2 rfl) ?_
        refine lv_iload_n hx hb dX11_like_27 rfl (lv_at hl 3 rfl) ?_
        refine lv_icmp_eq (tgt := 44) hx hb dX11_like_28 (by decide) (fun hc13 => ?_) (fun hc13 => ?_)
        · have hf := it_p hf hc13
          refine lv_bipush (v := (-3 : Int32)) hx hb dX11_like_44 rfl ?_
          obtain ⟨rfl, rfl⟩ := so2 hf
          exact r_iret C hw rfl dX11_like_46
        · have hf := it_n hf hc13
          refine lv_iload hx hb dX11_like_31 (lv_at hl 4 rfl) ?_
          refine lv_i2l hx hb dX11_like_33 rfl ?_
          refine lv_lconst (v := (0 : Int64)) hx hb dX11_like_34 rfl ?_
          refine lv_ldc2 (v := (99 : Int64)) hx hb hown (hts _ q5_130) dX11_like_35 ?_
          obtain ⟨r7, hc8, hf⟩ := bd1_e hf
          refine r_callSi0 C hw (c_X11_in hc8) md_X11_in [] rfl rfl q5_32 ⟨Nat.le_of_ble_eq_true rfl, Nat.le_of_ble_eq_true rfl⟩ ⟨Nat.zero_le _, Nat.zero_le _⟩ hl.1 rfl rfl (Nat.le_of_ble_eq_true rfl) dX11_like_38 (fun H locs hw => ?_)
          refine lv_if_ne (tgt := 47) hx hb dX11_like_41 (by decide) (fun hc12 => ?_) (fun hc12 => ?_)
          · have hf := it_n hf hc12
            refine lv_aload_n hx hb dX11_like_47 rfl (lv_at hl 0 rfl) ?_
            refine r_get C hw 0 rfl cf_X11 26 (by decide) q4_199 (v := .ref (zm 15)) rfl dX11_like_48 ?_
            refine lv_bipush (v := (36 : Int32)) hx hb dX11_like_51 rfl ?_
            refine lv_iload_n hx hb dX11_like_53 rfl (lv_at hl 1 rfl) ?_
            refine lv_imul hx hb dX11_like_54 ?_
            refine lv_bipush (v := (6 : Int32)) hx hb dX11_like_55 rfl ?_
            refine lv_iload_n hx hb dX11_like_57 rfl (lv_at hl 2 rfl) ?_
            refine lv_imul hx hb dX11_like_58 ?_
            refine lv_iadd hx hb dX11_like_59 ?_
            refine lv_iload_n hx hb dX11_like_60 rfl (lv_at hl 3 rfl) ?_
            refine lv_iadd hx hb dX11_like_61 ?_
            obtain ⟨hi9, hf⟩ := it_g hf
            refine r_iald C hw 15 (f := (Tm 15)) rfl hi9 dX11_like_62 ?_
            refine lv_istore (lv' := [(5, .int (Tm 15 ((((36 : Int32) * x1) + ((6 : Int32) * x2)) + x3).toNatClampNeg)), (0, .ref (zm 0)), (1, .int x1), (2, .int x2), (3, .int x3), (4, .int x4)]) hx hb dX11_like_63 hl (by decide) rfl (fun ls hl => ?_)
            refine lv_aload_n hx hb dX11_like_65 rfl (lv_at hl 1 rfl) ?_
            refine r_get C hw 0 rfl cf_X11 26 (by decide) q4_199 (v := .ref (zm 15)) rfl dX11_like_66 ?_
            refine lv_bipush (v := (36 : Int32)) hx hb dX11_like_69 rfl ?_
            refine lv_iload_n hx hb dX11_like_71 rfl (lv_at hl 2 rfl) ?_
            refine lv_imul hx hb dX11_like_72 ?_
            refine lv_bipush (v := (6 : Int32)) hx hb dX11_like_73 rfl ?_
            refine lv_iload_n hx hb dX11_like_75 rfl (lv_at hl 3 rfl) ?_
            refine lv_imul hx hb dX11_like_76 ?_
            refine lv_iadd hx hb dX11_like_77 ?_
            refine lv_iload_n hx hb dX11_like_78 rfl (lv_at hl 4 rfl) ?_
            refine lv_iadd hx hb dX11_like_79 ?_
            refine lv_iload hx hb dX11_like_80 (lv_at hl 5 rfl) ?_
            obtain ⟨hi10, hf⟩ := it_g hf
            refine r_iast C hw 15 (f := (Tm 15)) rfl hi10 (ws' := (gcM g zm (u2 Tm 15 ((((36 : Int32) * x1) + ((6 : Int32) * x2)) + x3).toNatClampNeg x4))) gcM_a15 dX11_like_82 (fun H locs hw => ?_)
            refine lv_aload_n hx hb dX11_like_83 rfl (lv_at hl 1 rfl) ?_
            refine r_get C hw 0 rfl cf_X11 26 (by decide) q4_199 (v := .ref (zm 15)) rfl dX11_like_84 ?_
            refine lv_bipush (v := (36 : Int32)) hx hb dX11_like_87 rfl ?_
            refine lv_iload_n hx hb dX11_like_89 rfl (lv_at hl 2 rfl) ?_
            refine lv_imul hx hb dX11_like_90 ?_
            refine lv_bipush (v := (6 : Int32)) hx hb dX11_like_91 rfl ?_
            refine lv_iload_n hx hb dX11_like_93 rfl (lv_at hl 4 rfl) ?_
            refine lv_imul hx hb dX11_like_94 ?_
            refine lv_iadd hx hb dX11_like_95 ?_
            refine lv_iload_n hx hb dX11_like_96 rfl (lv_at hl 3 rfl) ?_
            refine lv_iadd hx hb dX11_like_97 ?_
            refine lv_iload hx hb dX11_like_98 (lv_at hl 5 rfl) ?_
            obtain ⟨hi11, hf⟩ := it_g hf
            refine r_iast C hw 15 (f := ((u2 Tm 15 ((((36 : Int32) * x1) + ((6 : Int32) * x2)) + x3).toNatClampNeg x4) 15)) rfl hi11 (ws' := (gcM g zm (u2 (u2 Tm 15 ((((36 : Int32) * x1) + ((6 : Int32) * x2)) + x3).toNatClampNeg x4) 15 ((((36 : Int32) * x1) + ((6 : Int32) * x3)) + x2).toNatClampNeg x4))) gcM_a15 dX11_like_100 (fun H locs hw => ?_)
            refine lv_iload hx hb dX11_like_101 (lv_at hl 0 rfl) ?_
            obtain ⟨rfl, rfl⟩ := so2 hf
            exact r_iret C hw rfl dX11_like_103
          · have hf := it_p hf hc12
            refine lv_bipush (v := (-3 : Int32)) hx hb dX11_like_44 rfl ?_
            obtain ⟨rfl, rfl⟩ := so2 hf
            exact r_iret C hw rfl dX11_like_46
      · have hf := it_p hf hc14
        refine lv_bipush (v := (-2 : Int32)) hx hb dX11_like_23 rfl ?_
        obtain ⟨rfl, rfl⟩ := so2 hf
        exact r_iret C hw rfl dX11_like_25
set_option maxRecDepth 100000 in
set_option maxHeartbeats 4000000 in
theorem kX11_fours_164 {l : Launch} {g : evG} {p : Program} {e : Env} {s : State} {m : MethodId} {args : Array Value} {below : List Frame} {meth : Method} {c : Code} {A : Nat → Prop} {zm : Nat → Nat} {r : Int32} {om : Gp} (C : ctx g p s m args meth c RX11 cX11_fours 10 (some .int) A) {rec15 : Gp → Int32 → Int32 → Option (Int32 × Gp)} {rec30 : Gp → Int32 → Int32 → Int32 → Int32 → Option (Int32 × Gp)} (hr15 : ∀ (Tm : Gp) (x1 : Int32) (x2 : Int32) (H : Heap) (locs : List Loc) (ls : Array Slot), rec15 Tm x1 x2 = some (r, om) → wl g A s.heap (gcM g zm Tm) H locs → lv_has ls 10 [(0, .ref (zm 0)), (1, .int x1), (2, .int x2)] → W p l e (rmK 1 25) s m args below meth c H locs 0 0 (MQ below (Qi g A (gcM g zm om) r) args s 0 0 A) (F0 m 15 ls [])) (hr30 : ∀ (Tm : Gp) (x1 : Int32) (x2 : Int32) (x3 : Int32) (x4 : Int32) (H : Heap) (locs : List Loc) (ls : Array Slot), rec30 Tm x1 x2 x3 x4 = some (r, om) → wl g A s.heap (gcM g zm Tm) H locs → lv_has ls 10 [(0, .ref (zm 0)), (1, .int x1), (2, .int x2), (3, .int x3), (4, .int x4)] → W p l e (rmK 1 25) s m args below meth c H locs 0 0 (MQ below (Qi g A (gcM g zm om) r) args s 0 0 A) (F0 m 30 ls [])) {Tm : Gp} {x1 : Int32} {x2 : Int32} {x3 : Int32} {x4 : Int32} {y0 : Int32} {H : Heap} {locs : List Loc} {ls : Array Slot} (hf : fX11_fours_164 rec15 rec30 Tm x1 x2 x3 x4 y0 = some (r, om)) (hw : wl g A s.heap (gcM g zm Tm) H locs) (hl : lv_has ls 10 [(0, .ref (zm 0)), (1, .int x1), (2, .int x2), (3, .int x3), (4, .int x4)]) : W p l e (rmK 1 25) s m args below meth c H locs 0 0 (MQ below (Qi g A (gcM g zm om) r) args s 0 0 A) (F0 m 164 ls [.int y0]) := by
  obtain ⟨hx, hb, hml, hown, hts, -⟩ := id C
  unfold fX11_fours_164 at hf
  refine lv_istore (lv' := [(9, .int y0), (0, .ref (zm 0)), (1, .int x1), (2, .int x2), (3, .int x3), (4, .int x4)]) hx hb dX11_fours_164 hl (by decide) rfl (fun ls hl => ?_)
  refine lv_iload hx hb dX11_fours_166 (lv_at hl 0 rfl) ?_
  refine lv_iload_n hx hb dX11_fours_168 rfl (lv_at hl 4 rfl) ?_
  refine lv_icmp_le (tgt := 177) hx hb dX11_fours_169 (by decide) (fun hc1 => ?_) (fun hc1 => ?_)
  · have hf := it_p hf hc1
    refine lv_iload_n hx hb dX11_fours_177 rfl (lv_at hl 4 rfl) ?_
    refine lv_istore_n (lv' := [(3, .int x3), (9, .int y0), (0, .ref (zm 0)), (1, .int x1), (2, .int x2), (4, .int x4)]) hx hb dX11_fours_178 rfl hl (by decide) rfl (fun ls hl => ?_)
    refine lv_iinc (v := (x4 + (1 : Int32))) (lv' := [(4, .int (x4 + (1 : Int32))), (3, .int x3), (9, .int y0), (0, .ref (zm 0)), (1, .int x1), (2, .int x2)]) hx hb dX11_fours_179 hl (k := 5) rfl rfl (by decide) rfl (fun ls hl => ?_)
    refine lv_goto (tgt := 30) hx hb dX11_fours_182 (by decide) ?_
    exact hr30 _ _ _ _ _ _ _ _ hf hw (lv_sub hl [3, 4, 5, 1, 0] rfl)
  · have hf := it_n hf hc1
    refine lv_iload hx hb dX11_fours_172 (lv_at hl 0 rfl) ?_
    refine lv_goto (tgt := 178) hx hb dX11_fours_174 (by decide) ?_
    refine lv_istore_n (lv' := [(3, .int y0), (9, .int y0), (0, .ref (zm 0)), (1, .int x1), (2, .int x2), (4, .int x4)]) hx hb dX11_fours_178 rfl hl (by decide) rfl (fun ls hl => ?_)
    refine lv_iinc (v := (x4 + (1 : Int32))) (lv' := [(4, .int (x4 + (1 : Int32))), (3, .int y0), (9, .int y0), (0, .ref (zm 0)), (1, .int x1), (2, .int x2)]) hx hb dX11_fours_179 hl (k := 5) rfl rfl (by decide) rfl (fun ls hl => ?_)
    refine lv_goto (tgt := 30) hx hb dX11_fours_182 (by decide) ?_
    exact hr30 _ _ _ _ _ _ _ _ hf hw (lv_sub hl [3, 4, 5, 1, 0] rfl)
set_option maxRecDepth 100000 in
set_option maxHeartbeats 4000000 in
theorem kX11_fours_125 {l : Launch} {g : evG} {p : Program} {e : Env} {s : State} {m : MethodId} {args : Array Value} {below : List Frame} {meth : Method} {c : Code} {A : Nat → Prop} {zm : Nat → Nat} {r : Int32} {om : Gp} (C : ctx g p s m args meth c RX11 cX11_fours 10 (some .int) A) {rec15 : Gp → Int32 → Int32 → Option (Int32 × Gp)} {rec30 : Gp → Int32 → Int32 → Int32 → Int32 → Option (Int32 × Gp)} (hr15 : ∀ (Tm : Gp) (x1 : Int32) (x2 : Int32) (H : Heap) (locs : List Loc) (ls : Array Slot), rec15 Tm x1 x2 = some (r, om) → wl g A s.heap (gcM g zm Tm) H locs → lv_has ls 10 [(0, .ref (zm 0)), (1, .int x1), (2, .int x2)] → W p l e (rmK 1 25) s m args below meth c H locs 0 0 (MQ below (Qi g A (gcM g zm om) r) args s 0 0 A) (F0 m 15 ls [])) (hr30 : ∀ (Tm : Gp) (x1 : Int32) (x2 : Int32) (x3 : Int32) (x4 : Int32) (H : Heap) (locs : List Loc) (ls : Array Slot), rec30 Tm x1 x2 x3 x4 = some (r, om) → wl g A s.heap (gcM g zm Tm) H locs → lv_has ls 10 [(0, .ref (zm 0)), (1, .int x1), (2, .int x2), (3, .int x3), (4, .int x4)] → W p l e (rmK 1 25) s m args below meth c H locs 0 0 (MQ below (Qi g A (gcM g zm om) r) args s 0 0 A) (F0 m 30 ls [])) {Tm : Gp} {x1 : Int32} {x2 : Int32} {x3 : Int32} {x4 : Int32} {x5 : Int32} {x6 : Int32} {x7 : Int32} {y0 : Int32} {H : Heap} {locs : List Loc} {ls : Array Slot} (hf : fX11_fours_125 rec15 rec30 Tm x1 x2 x3 x4 x5 x6 x7 y0 = some (r, om)) (hw : wl g A s.heap (gcM g zm Tm) H locs) (hl : lv_has ls 10 [(0, .ref (zm 0)), (1, .int x1), (2, .int x2), (3, .int x3), (4, .int x4), (5, .int x5), (6, .int x6), (7, .int x7)]) : W p l e (rmK 1 25) s m args below meth c H locs 0 0 (MQ below (Qi g A (gcM g zm om) r) args s 0 0 A) (F0 m 125 ls [.int y0]) := by
  obtain ⟨hx, hb, hml, hown, hts, -⟩ := id C
  unfold fX11_fours_125 at hf
  refine lv_istore (lv' := [(8, .int y0), (0, .ref (zm 0)), (1, .int x1), (2, .int x2), (3, .int x3), (4, .int x4), (5, .int x5), (6, .int x6), (7, .int x7)]) hx hb dX11_fours_125 hl (by decide) rfl (fun ls hl => ?_)
  refine lv_iload hx hb dX11_fours_127 (lv_at hl 8 rfl) ?_
  refine lv_if_eq (tgt := 163) hx hb dX11_fours_129 (by decide) (fun hc2 => ?_) (fun hc2 => ?_)
  · have hf := it_p hf hc2
    refine lv_iconst (v := (0 : Int32)) hx hb dX11_fours_163 rfl ?_
    exact kX11_fours_164 (zm := zm) (r := r) (om := om) C hr15 hr30 hf hw (lv_sub hl [1, 2, 3, 4, 5] rfl)
  · have hf := it_n hf hc2
    refine lv_aload_n hx hb dX11_fours_132 rfl (lv_at hl 1 rfl) ?_
    refine r_get C hw 0 rfl cf_X11 27 (by decide) q4_200 (v := .ref (zm 16)) rfl dX11_fours_133 ?_
    refine lv_iload_n hx hb dX11_fours_136 rfl (lv_at hl 3 rfl) ?_
    refine lv_iconst (v := (1 : Int32)) hx hb dX11_fours_137 rfl ?_
    refine lv_iload hx hb dX11_fours_138 (lv_at hl 6 rfl) ?_
    refine lv_ishl hx hb dX11_fours_140 ?_
    refine lv_iconst (v := (-1 : Int32)) hx hb dX11_fours_141 rfl ?_
    refine lv_ixor hx hb dX11_fours_142 ?_
    refine lv_iand hx hb dX11_fours_143 ?_
    refine lv_iconst (v := (1 : Int32)) hx hb dX11_fours_144 rfl ?_
    refine lv_iload hx hb dX11_fours_145 (lv_at hl 7 rfl) ?_
    refine lv_ishl hx hb dX11_fours_147 ?_
    refine lv_iconst (v := (-1 : Int32)) hx hb dX11_fours_148 rfl ?_
    refine lv_ixor hx hb dX11_fours_149 ?_
    refine lv_iand hx hb dX11_fours_150 ?_
    obtain ⟨hi1, hf⟩ := it_g hf
    refine r_iald C hw 16 (f := (Tm 16)) rfl hi1 dX11_fours_151 ?_
    refine lv_bipush (v := (100 : Int32)) hx hb dX11_fours_152 rfl ?_
    refine lv_iload hx hb dX11_fours_154 (lv_at hl 0 rfl) ?_
    refine lv_imul hx hb dX11_fours_156 ?_
    refine lv_iadd hx hb dX11_fours_157 ?_
    refine lv_iconst (v := (1 : Int32)) hx hb dX11_fours_158 rfl ?_
    refine lv_iadd hx hb dX11_fours_159 ?_
    refine lv_goto (tgt := 164) hx hb dX11_fours_160 (by decide) ?_
    exact kX11_fours_164 (zm := zm) (r := r) (om := om) C hr15 hr30 hf hw (lv_sub hl [1, 2, 3, 4, 5] rfl)
set_option maxRecDepth 100000 in
set_option maxHeartbeats 4000000 in
theorem kX11_fours_83 {l : Launch} {g : evG} {p : Program} {e : Env} {s : State} {m : MethodId} {args : Array Value} {below : List Frame} {meth : Method} {c : Code} {A : Nat → Prop} {zm : Nat → Nat} {r : Int32} {om : Gp} (C : ctx g p s m args meth c RX11 cX11_fours 10 (some .int) A) {rec15 : Gp → Int32 → Int32 → Option (Int32 × Gp)} {rec30 : Gp → Int32 → Int32 → Int32 → Int32 → Option (Int32 × Gp)} (hr15 : ∀ (Tm : Gp) (x1 : Int32) (x2 : Int32) (H : Heap) (locs : List Loc) (ls : Array Slot), rec15 Tm x1 x2 = some (r, om) → wl g A s.heap (gcM g zm Tm) H locs → lv_has ls 10 [(0, .ref (zm 0)), (1, .int x1), (2, .int x2)] → W p l e (rmK 1 25) s m args below meth c H locs 0 0 (MQ below (Qi g A (gcM g zm om) r) args s 0 0 A) (F0 m 15 ls [])) (hr30 : ∀ (Tm : Gp) (x1 : Int32) (x2 : Int32) (x3 : Int32) (x4 : Int32) (H : Heap) (locs : List Loc) (ls : Array Slot), rec30 Tm x1 x2 x3 x4 = some (r, om) → wl g A s.heap (gcM g zm Tm) H locs → lv_has ls 10 [(0, .ref (zm 0)), (1, .int x1), (2, .int x2), (3, .int x3), (4, .int x4)] → W p l e (rmK 1 25) s m args below meth c H locs 0 0 (MQ below (Qi g A (gcM g zm om) r) args s 0 0 A) (F0 m 30 ls [])) {Tm : Gp} {x1 : Int32} {x2 : Int32} {x3 : Int32} {x4 : Int32} {x5 : Int32} {x6 : Int32} {y0 : Int32} {H : Heap} {locs : List Loc} {ls : Array Slot} (hf : fX11_fours_83 rec15 rec30 Tm x1 x2 x3 x4 x5 x6 y0 = some (r, om)) (hw : wl g A s.heap (gcM g zm Tm) H locs) (hl : lv_has ls 10 [(0, .ref (zm 0)), (1, .int x1), (2, .int x2), (3, .int x3), (4, .int x4), (5, .int x5), (6, .int x6)]) : W p l e (rmK 1 25) s m args below meth c H locs 0 0 (MQ below (Qi g A (gcM g zm om) r) args s 0 0 A) (F0 m 83 ls [.int y0]) := by
  obtain ⟨hx, hb, hml, hown, hts, -⟩ := id C
  unfold fX11_fours_83 at hf
  refine lv_istore (lv' := [(7, .int y0), (0, .ref (zm 0)), (1, .int x1), (2, .int x2), (3, .int x3), (4, .int x4), (5, .int x5), (6, .int x6)]) hx hb dX11_fours_83 hl (by decide) rfl (fun ls hl => ?_)
  refine lv_aload_n hx hb dX11_fours_85 rfl (lv_at hl 1 rfl) ?_
  refine r_get C hw 0 rfl cf_X11 26 (by decide) q4_199 (v := .ref (zm 15)) rfl dX11_fours_86 ?_
  refine lv_iload hx hb dX11_fours_89 (lv_at hl 5 rfl) ?_
  obtain ⟨hi1, hf⟩ := it_g hf
  refine r_iald C hw 15 (f := (Tm 15)) rfl hi1 dX11_fours_91 ?_
  refine lv_aload_n hx hb dX11_fours_92 rfl (lv_at hl 1 rfl) ?_
  refine r_get C hw 0 rfl cf_X11 26 (by decide) q4_199 (v := .ref (zm 15)) rfl dX11_fours_93 ?_
  refine lv_bipush (v := (36 : Int32)) hx hb dX11_fours_96 rfl ?_
  refine lv_iload hx hb dX11_fours_98 (lv_at hl 5 rfl) ?_
  refine lv_iadd hx hb dX11_fours_100 ?_
  obtain ⟨hi2, hf⟩ := it_g hf
  refine r_iald C hw 15 (f := (Tm 15)) rfl hi2 dX11_fours_101 ?_
  refine lv_icmp_ge (tgt := 115) hx hb dX11_fours_102 (by decide) (fun hc5 => ?_) (fun hc5 => ?_)
  · have hf := it_p hf hc5
    refine lv_aload_n hx hb dX11_fours_115 rfl (lv_at hl 1 rfl) ?_
    refine r_get C hw 0 rfl cf_X11 26 (by decide) q4_199 (v := .ref (zm 15)) rfl dX11_fours_116 ?_
    refine lv_bipush (v := (36 : Int32)) hx hb dX11_fours_119 rfl ?_
    refine lv_iload hx hb dX11_fours_121 (lv_at hl 5 rfl) ?_
    refine lv_iadd hx hb dX11_fours_123 ?_
    obtain ⟨hi3, hf⟩ := it_g hf
    refine r_iald C hw 15 (f := (Tm 15)) rfl hi3 dX11_fours_124 ?_
    exact kX11_fours_125 (zm := zm) (r := r) (om := om) C hr15 hr30 hf hw (lv_sub hl [1, 2, 3, 4, 5, 6, 7, 0] rfl)
  · have hf := it_n hf hc5
    refine lv_aload_n hx hb dX11_fours_105 rfl (lv_at hl 1 rfl) ?_
    refine r_get C hw 0 rfl cf_X11 26 (by decide) q4_199 (v := .ref (zm 15)) rfl dX11_fours_106 ?_
    refine lv_iload hx hb dX11_fours_109 (lv_at hl 5 rfl) ?_
    obtain ⟨hi4, hf⟩ := it_g hf
    refine r_iald C hw 15 (f := (Tm 15)) rfl hi4 dX11_fours_111 ?_
    refine lv_goto (tgt := 125) hx hb dX11_fours_112 (by decide) ?_
    exact kX11_fours_125 (zm := zm) (r := r) (om := om) C hr15 hr30 hf hw (lv_sub hl [1, 2, 3, 4, 5, 6, 7, 0] rfl)
set_option maxRecDepth 100000 in
set_option maxHeartbeats 4000000 in
theorem kX11_fours_82 {l : Launch} {g : evG} {p : Program} {e : Env} {s : State} {m : MethodId} {args : Array Value} {below : List Frame} {meth : Method} {c : Code} {A : Nat → Prop} {zm : Nat → Nat} {r : Int32} {om : Gp} (C : ctx g p s m args meth c RX11 cX11_fours 10 (some .int) A) {rec15 : Gp → Int32 → Int32 → Option (Int32 × Gp)} {rec30 : Gp → Int32 → Int32 → Int32 → Int32 → Option (Int32 × Gp)} (hr15 : ∀ (Tm : Gp) (x1 : Int32) (x2 : Int32) (H : Heap) (locs : List Loc) (ls : Array Slot), rec15 Tm x1 x2 = some (r, om) → wl g A s.heap (gcM g zm Tm) H locs → lv_has ls 10 [(0, .ref (zm 0)), (1, .int x1), (2, .int x2)] → W p l e (rmK 1 25) s m args below meth c H locs 0 0 (MQ below (Qi g A (gcM g zm om) r) args s 0 0 A) (F0 m 15 ls [])) (hr30 : ∀ (Tm : Gp) (x1 : Int32) (x2 : Int32) (x3 : Int32) (x4 : Int32) (H : Heap) (locs : List Loc) (ls : Array Slot), rec30 Tm x1 x2 x3 x4 = some (r, om) → wl g A s.heap (gcM g zm Tm) H locs → lv_has ls 10 [(0, .ref (zm 0)), (1, .int x1), (2, .int x2), (3, .int x3), (4, .int x4)] → W p l e (rmK 1 25) s m args below meth c H locs 0 0 (MQ below (Qi g A (gcM g zm om) r) args s 0 0 A) (F0 m 30 ls [])) {Tm : Gp} {x1 : Int32} {x2 : Int32} {x3 : Int32} {x4 : Int32} {x5 : Int32} {x6 : Int32} {H : Heap} {locs : List Loc} {ls : Array Slot} (hf : fX11_fours_82 rec15 rec30 Tm x1 x2 x3 x4 x5 x6 = some (r, om)) (hw : wl g A s.heap (gcM g zm Tm) H locs) (hl : lv_has ls 10 [(0, .ref (zm 0)), (1, .int x1), (2, .int x2), (3, .int x3), (4, .int x4), (5, .int x5), (6, .int x6)]) : W p l e (rmK 1 25) s m args below meth c H locs 0 0 (MQ below (Qi g A (gcM g zm om) r) args s 0 0 A) (F0 m 82 ls []) := by
  obtain ⟨hx, hb, hml, hown, hts, -⟩ := id C
  unfold fX11_fours_82 at hf
  refine lv_iconst (v := (0 : Int32)) hx hb dX11_fours_82 rfl ?_
  exact kX11_fours_83 (zm := zm) (r := r) (om := om) C hr15 hr30 hf hw (lv_sub hl [0, 1, 2, 3, 4, 5, 6] rfl)
set_option maxRecDepth 100000 in
set_option maxHeartbeats 4000000 in
theorem kX11_fours_30 {l : Launch} {g : evG} {p : Program} {e : Env} {s : State} {m : MethodId} {args : Array Value} {below : List Frame} {meth : Method} {c : Code} {A : Nat → Prop} {zm : Nat → Nat} {r : Int32} {om : Gp} (C : ctx g p s m args meth c RX11 cX11_fours 10 (some .int) A) {rec15 : Gp → Int32 → Int32 → Option (Int32 × Gp)} {rec30 : Gp → Int32 → Int32 → Int32 → Int32 → Option (Int32 × Gp)} (hr15 : ∀ (Tm : Gp) (x1 : Int32) (x2 : Int32) (H : Heap) (locs : List Loc) (ls : Array Slot), rec15 Tm x1 x2 = some (r, om) → wl g A s.heap (gcM g zm Tm) H locs → lv_has ls 10 [(0, .ref (zm 0)), (1, .int x1), (2, .int x2)] → W p l e (rmK 1 25) s m args below meth c H locs 0 0 (MQ below (Qi g A (gcM g zm om) r) args s 0 0 A) (F0 m 15 ls [])) (hr30 : ∀ (Tm : Gp) (x1 : Int32) (x2 : Int32) (x3 : Int32) (x4 : Int32) (H : Heap) (locs : List Loc) (ls : Array Slot), rec30 Tm x1 x2 x3 x4 = some (r, om) → wl g A s.heap (gcM g zm Tm) H locs → lv_has ls 10 [(0, .ref (zm 0)), (1, .int x1), (2, .int x2), (3, .int x3), (4, .int x4)] → W p l e (rmK 1 25) s m args below meth c H locs 0 0 (MQ below (Qi g A (gcM g zm om) r) args s 0 0 A) (F0 m 30 ls [])) {Tm : Gp} {x1 : Int32} {x2 : Int32} {x3 : Int32} {x4 : Int32} {H : Heap} {locs : List Loc} {ls : Array Slot} (hf : fX11_fours_30 rec15 rec30 Tm x1 x2 x3 x4 = some (r, om)) (hw : wl g A s.heap (gcM g zm Tm) H locs) (hl : lv_has ls 10 [(0, .ref (zm 0)), (1, .int x1), (2, .int x2), (3, .int x3), (4, .int x4)]) : W p l e (rmK 1 25) s m args below meth c H locs 0 0 (MQ below (Qi g A (gcM g zm om) r) args s 0 0 A) (F0 m 30 ls []) := by
  obtain ⟨hx, hb, hml, hown, hts, -⟩ := id C
  unfold fX11_fours_30 at hf
  refine lv_iload hx hb dX11_fours_30 (lv_at hl 4 rfl) ?_
  refine lv_bipush (v := (36 : Int32)) hx hb dX11_fours_32 rfl ?_
  refine lv_icmp_ge (tgt := 185) hx hb dX11_fours_34 (by decide) (fun hc5 => ?_) (fun hc5 => ?_)
  · have hf := it_p hf hc5
    refine lv_aload_n hx hb dX11_fours_185 rfl (lv_at hl 0 rfl) ?_
    refine r_get C hw 0 rfl cf_X11 27 (by decide) q4_200 (v := .ref (zm 16)) rfl dX11_fours_186 ?_
    refine lv_iload_n hx hb dX11_fours_189 rfl (lv_at hl 2 rfl) ?_
    refine lv_iload_n hx hb dX11_fours_190 rfl (lv_at hl 3 rfl) ?_
    obtain ⟨hi1, hf⟩ := it_g hf
    refine r_iast C hw 16 (f := (Tm 16)) rfl hi1 (ws' := (gcM g zm (u2 Tm 16 x2.toNatClampNeg x3))) gcM_a16 dX11_fours_191 (fun H locs hw => ?_)
    refine lv_iinc (v := (x2 + (1 : Int32))) (lv' := [(2, .int (x2 + (1 : Int32))), (0, .ref (zm 0)), (1, .int x1), (3, .int x3), (4, .int x4)]) hx hb dX11_fours_192 hl (k := 2) rfl rfl (by decide) rfl (fun ls hl => ?_)
    refine lv_goto (tgt := 15) hx hb dX11_fours_195 (by decide) ?_
    exact hr15 _ _ _ _ _ _ hf hw (lv_sub hl [1, 2, 0] rfl)
  · have hf := it_n hf hc5
    refine lv_iload hx hb dX11_fours_37 (lv_at hl 4 rfl) ?_
    refine lv_bipush (v := (6 : Int32)) hx hb dX11_fours_39 rfl ?_
    refine lv_idiv hx hb dX11_fours_41 (by decide) ?_
    refine lv_istore (lv' := [(5, .int (x4 / (6 : Int32))), (0, .ref (zm 0)), (1, .int x1), (2, .int x2), (3, .int x3), (4, .int x4)]) hx hb dX11_fours_42 hl (by decide) rfl (fun ls hl => ?_)
    refine lv_iload hx hb dX11_fours_44 (lv_at hl 5 rfl) ?_
    refine lv_bipush (v := (6 : Int32)) hx hb dX11_fours_46 rfl ?_
    refine lv_irm hx hb dX11_fours_48 (by decide) ?_
    refine lv_istore (lv' := [(6, .int (irm x4 (6 : Int32))), (5, .int (x4 / (6 : Int32))), (0, .ref (zm 0)), (1, .int x1), (2, .int x2), (3, .int x3), (4, .int x4)]) hx hb dX11_fours_49 hl (by decide) rfl (fun ls hl => ?_)
    refine lv_iload hx hb dX11_fours_51 (lv_at hl 1 rfl) ?_
    refine lv_iload hx hb dX11_fours_53 (lv_at hl 0 rfl) ?_
    refine lv_icmp_ge (tgt := 82) hx hb dX11_fours_55 (by decide) (fun hc4 => ?_) (fun hc4 => ?_)
    · have hf := it_p hf hc4
      exact kX11_fours_82 (zm := zm) (r := r) (om := om) C hr15 hr30 hf hw (lv_sub hl [2, 3, 4, 5, 6, 1, 0] rfl)
    · have hf := it_n hf hc4
      refine lv_iload_n hx hb dX11_fours_58 rfl (lv_at hl 4 rfl) ?_
      refine lv_iload hx hb dX11_fours_59 (lv_at hl 1 rfl) ?_
      refine lv_ishr hx hb dX11_fours_61 ?_
      refine lv_iconst (v := (1 : Int32)) hx hb dX11_fours_62 rfl ?_
      refine lv_iand hx hb dX11_fours_63 ?_
      refine lv_iconst (v := (1 : Int32)) hx hb dX11_fours_64 rfl ?_
      refine lv_icmp_ne (tgt := 82) hx hb dX11_fours_65 (by decide) (fun hc3 => ?_) (fun hc3 => ?_)
      · have hf := it_n hf hc3
        exact kX11_fours_82 (zm := zm) (r := r) (om := om) C hr15 hr30 hf hw (lv_sub hl [2, 3, 4, 5, 6, 1, 0] rfl)
      · have hf := it_p hf hc3
        refine lv_iload_n hx hb dX11_fours_68 rfl (lv_at hl 4 rfl) ?_
        refine lv_iload hx hb dX11_fours_69 (lv_at hl 0 rfl) ?_
        refine lv_ishr hx hb dX11_fours_71 ?_
        refine lv_iconst (v := (1 : Int32)) hx hb dX11_fours_72 rfl ?_
        refine lv_iand hx hb dX11_fours_73 ?_
        refine lv_iconst (v := (1 : Int32)) hx hb dX11_fours_74 rfl ?_
        refine lv_icmp_ne (tgt := 82) hx hb dX11_fours_75 (by decide) (fun hc2 => ?_) (fun hc2 => ?_)
        · have hf := it_n hf hc2
          exact kX11_fours_82 (zm := zm) (r := r) (om := om) C hr15 hr30 hf hw (lv_sub hl [2, 3, 4, 5, 6, 1, 0] rfl)
        · have hf := it_p hf hc2
          refine lv_iconst (v := (1 : Int32)) hx hb dX11_fours_78 rfl ?_
          refine lv_goto (tgt := 83) hx hb dX11_fours_79 (by decide) ?_
          exact kX11_fours_83 (zm := zm) (r := r) (om := om) C hr15 hr30 hf hw (lv_sub hl [2, 3, 4, 5, 6, 1, 0] rfl)
set_option maxRecDepth 100000 in
set_option maxHeartbeats 4000000 in
theorem klX11_fours_30 {l : Launch} {g : evG} {p : Program} {e : Env} {s : State} {m : MethodId} {args : Array Value} {below : List Frame} {meth : Method} {c : Code} {A : Nat → Prop} {zm : Nat → Nat} {r : Int32} {om : Gp} (C : ctx g p s m args meth c RX11 cX11_fours 10 (some .int) A) {rec15 : Gp → Int32 → Int32 → Option (Int32 × Gp)} (hr15 : ∀ (Tm : Gp) (x1 : Int32) (x2 : Int32) (H : Heap) (locs : List Loc) (ls : Array Slot), rec15 Tm x1 x2 = some (r, om) → wl g A s.heap (gcM g zm Tm) H locs → lv_has ls 10 [(0, .ref (zm 0)), (1, .int x1), (2, .int x2)] → W p l e (rmK 1 25) s m args below meth c H locs 0 0 (MQ below (Qi g A (gcM g zm om) r) args s 0 0 A) (F0 m 15 ls [])) : ∀ (n : Nat) (Tm : Gp) (x1 : Int32) (x2 : Int32) (x3 : Int32) (x4 : Int32) (H : Heap) (locs : List Loc) (ls : Array Slot), lX11_fours_30 rec15 n Tm x1 x2 x3 x4 = some (r, om) → wl g A s.heap (gcM g zm Tm) H locs → lv_has ls 10 [(0, .ref (zm 0)), (1, .int x1), (2, .int x2), (3, .int x3), (4, .int x4)] → W p l e (rmK 1 25) s m args below meth c H locs 0 0 (MQ below (Qi g A (gcM g zm om) r) args s 0 0 A) (F0 m 30 ls []) := by
  intro n
  induction n with
  | zero => intro _ _ _ _ _ _ _ _ hf; exact no_f hf
  | succ n ih => intro _ _ _ _ _ _ _ _ hf hw hl; exact kX11_fours_30 (zm := zm) (r := r) (om := om) C hr15 (rec30 := lX11_fours_30 rec15 n) ih hf hw hl
set_option maxRecDepth 100000 in
set_option maxHeartbeats 4000000 in
theorem kX11_fours_15 {l : Launch} {g : evG} {p : Program} {e : Env} {s : State} {m : MethodId} {args : Array Value} {below : List Frame} {meth : Method} {c : Code} {A : Nat → Prop} {zm : Nat → Nat} {r : Int32} {om : Gp} (C : ctx g p s m args meth c RX11 cX11_fours 10 (some .int) A) {rec15 : Gp → Int32 → Int32 → Option (Int32 × Gp)} (hr15 : ∀ (Tm : Gp) (x1 : Int32) (x2 : Int32) (H : Heap) (locs : List Loc) (ls : Array Slot), rec15 Tm x1 x2 = some (r, om) → wl g A s.heap (gcM g zm Tm) H locs → lv_has ls 10 [(0, .ref (zm 0)), (1, .int x1), (2, .int x2)] → W p l e (rmK 1 25) s m args below meth c H locs 0 0 (MQ below (Qi g A (gcM g zm om) r) args s 0 0 A) (F0 m 15 ls [])) {Tm : Gp} {x1 : Int32} {x2 : Int32} {H : Heap} {locs : List Loc} {ls : Array Slot} (hf : fX11_fours_15 rec15 Tm x1 x2 = some (r, om)) (hw : wl g A s.heap (gcM g zm Tm) H locs) (hl : lv_has ls 10 [(0, .ref (zm 0)), (1, .int x1), (2, .int x2)]) : W p l e (rmK 1 25) s m args below meth c H locs 0 0 (MQ below (Qi g A (gcM g zm om) r) args s 0 0 A) (F0 m 15 ls []) := by
  obtain ⟨hx, hb, hml, hown, hts, -⟩ := id C
  unfold fX11_fours_15 at hf
  refine lv_iload_n hx hb dX11_fours_15 rfl (lv_at hl 2 rfl) ?_
  refine lv_iconst (v := (1 : Int32)) hx hb dX11_fours_16 rfl ?_
  refine lv_aload_n hx hb dX11_fours_17 rfl (lv_at hl 0 rfl) ?_
  refine r_get C hw 0 rfl cf_X11 6 (by decide) q4_179 (v := .int (Tm 0 6)) rfl dX11_fours_18 ?_
  refine lv_ishl hx hb dX11_fours_21 ?_
  refine lv_icmp_ge (tgt := 198) hx hb dX11_fours_22 (by decide) (fun hc3 => ?_) (fun hc3 => ?_)
  · have hf := it_p hf hc3
    refine lv_aload_n hx hb dX11_fours_198 rfl (lv_at hl 0 rfl) ?_
    refine r_get C hw 0 rfl cf_X11 27 (by decide) q4_200 (v := .ref (zm 16)) rfl dX11_fours_199 ?_
    refine lv_iconst (v := (1 : Int32)) hx hb dX11_fours_202 rfl ?_
    refine lv_aload_n hx hb dX11_fours_203 rfl (lv_at hl 0 rfl) ?_
    refine r_get C hw 0 rfl cf_X11 6 (by decide) q4_179 (v := .int (Tm 0 6)) rfl dX11_fours_204 ?_
    refine lv_ishl hx hb dX11_fours_207 ?_
    refine lv_iconst (v := (1 : Int32)) hx hb dX11_fours_208 rfl ?_
    refine lv_isub hx hb dX11_fours_209 ?_
    obtain ⟨hi1, hf⟩ := it_g hf
    refine r_iald C hw 16 (f := (Tm 16)) rfl hi1 dX11_fours_210 ?_
    refine lv_istore_n (lv' := [(2, .int (Tm 16 (((1 : Int32) <<< ((Tm 0 6) &&& 31)) - (1 : Int32)).toNatClampNeg)), (0, .ref (zm 0)), (1, .int x1)]) hx hb dX11_fours_211 rfl hl (by decide) rfl (fun ls hl => ?_)
    refine lv_iload_n hx hb dX11_fours_212 rfl (lv_at hl 2 rfl) ?_
    refine lv_if_ne (tgt := 223) hx hb dX11_fours_213 (by decide) (fun hc2 => ?_) (fun hc2 => ?_)
    · have hf := it_n hf hc2
      refine lv_iload_n hx hb dX11_fours_223 rfl (lv_at hl 0 rfl) ?_
      refine lv_bipush (v := (100 : Int32)) hx hb dX11_fours_224 rfl ?_
      refine lv_irm hx hb dX11_fours_226 (by decide) ?_
      obtain ⟨rfl, rfl⟩ := so2 hf
      exact r_iret C hw rfl dX11_fours_227
    · have hf := it_p hf hc2
      refine lv_iload_n hx hb dX11_fours_216 rfl (lv_at hl 0 rfl) ?_
      refine lv_bipush (v := (100 : Int32)) hx hb dX11_fours_217 rfl ?_
      refine lv_idiv hx hb dX11_fours_219 (by decide) ?_
      refine lv_goto (tgt := 227) hx hb dX11_fours_220 (by decide) ?_
      obtain ⟨rfl, rfl⟩ := so2 hf
      exact r_iret C hw rfl dX11_fours_227
  · have hf := it_n hf hc3
    refine lv_iconst (v := (0 : Int32)) hx hb dX11_fours_25 rfl ?_
    refine lv_istore_n (lv' := [(3, .int (0 : Int32)), (0, .ref (zm 0)), (1, .int x1), (2, .int x2)]) hx hb dX11_fours_26 rfl hl (by decide) rfl (fun ls hl => ?_)
    refine lv_iconst (v := (0 : Int32)) hx hb dX11_fours_27 rfl ?_
    refine lv_istore (lv' := [(4, .int (0 : Int32)), (3, .int (0 : Int32)), (0, .ref (zm 0)), (1, .int x1), (2, .int x2)]) hx hb dX11_fours_28 hl (by decide) rfl (fun ls hl => ?_)
    exact klX11_fours_30 (zm := zm) (r := r) (om := om) C hr15 fu _ _ _ _ _ _ _ _ hf hw (lv_sub hl [2, 3, 4, 1, 0] rfl)
set_option maxRecDepth 100000 in
set_option maxHeartbeats 4000000 in
theorem klX11_fours_15 {l : Launch} {g : evG} {p : Program} {e : Env} {s : State} {m : MethodId} {args : Array Value} {below : List Frame} {meth : Method} {c : Code} {A : Nat → Prop} {zm : Nat → Nat} {r : Int32} {om : Gp} (C : ctx g p s m args meth c RX11 cX11_fours 10 (some .int) A) : ∀ (n : Nat) (Tm : Gp) (x1 : Int32) (x2 : Int32) (H : Heap) (locs : List Loc) (ls : Array Slot), lX11_fours_15 n Tm x1 x2 = some (r, om) → wl g A s.heap (gcM g zm Tm) H locs → lv_has ls 10 [(0, .ref (zm 0)), (1, .int x1), (2, .int x2)] → W p l e (rmK 1 25) s m args below meth c H locs 0 0 (MQ below (Qi g A (gcM g zm om) r) args s 0 0 A) (F0 m 15 ls []) := by
  intro n
  induction n with
  | zero => intro _ _ _ _ _ _ hf; exact no_f hf
  | succ n ih => intro _ _ _ _ _ _ hf hw hl; exact kX11_fours_15 (zm := zm) (r := r) (om := om) C (rec15 := lX11_fours_15 n) ih hf hw hl
set_option maxRecDepth 100000 in
set_option maxHeartbeats 4000000 in
theorem c_X11_fours {l : Launch} {g : evG} {zm : Nat → Nat} {r : Int32} {om : Gp}  {Tm : Gp} {x1 : Int32} (hf : fX11_fours Tm x1 = some (r, om)) : CTi l g yX11_fours (Cond.code yX11_fours cX11_fours 10 (some .int)) 1 25 [.ref (zm 0), .int x1] (gcM g zm Tm) (gcM g zm om) r := by
  refine ct_i rfl (Nat.le_of_ble_eq_true rfl) ?_
  intro p e s m args below meth c A ls C hw hl
  have C : ctx g p s m args meth c RX11 cX11_fours 10 (some .int) A := C
  have hl : lv_has ls 10 [(0, .ref (zm 0)), (1, .int x1)] := hl
  obtain ⟨hx, hb, hml, hown, hts, -⟩ := id C
  unfold fX11_fours at hf
  refine lv_iload_n hx hb dX11_fours_0 rfl (lv_at hl 1 rfl) ?_
  refine lv_i2l hx hb dX11_fours_1 rfl ?_
  refine lv_lconst (v := (0 : Int64)) hx hb dX11_fours_2 rfl ?_
  refine lv_lconst (v := (1 : Int64)) hx hb dX11_fours_3 rfl ?_
  obtain ⟨r1, hc2, hf⟩ := bd1_e hf
  refine r_callSi0 C hw (c_X11_in hc2) md_X11_in [] rfl rfl q5_32 ⟨Nat.le_of_ble_eq_true rfl, Nat.le_of_ble_eq_true rfl⟩ ⟨Nat.zero_le _, Nat.zero_le _⟩ hl.1 rfl rfl (Nat.le_of_ble_eq_true rfl) dX11_fours_4 (fun H locs hw => ?_)
  refine lv_if_ne (tgt := 13) hx hb dX11_fours_7 (by decide) (fun hc3 => ?_) (fun hc3 => ?_)
  · have hf := it_n hf hc3
    refine lv_iconst (v := (0 : Int32)) hx hb dX11_fours_13 rfl ?_
    refine lv_istore_n (lv' := [(2, .int (0 : Int32)), (0, .ref (zm 0)), (1, .int x1)]) hx hb dX11_fours_14 rfl hl (by decide) rfl (fun ls hl => ?_)
    exact klX11_fours_15 (zm := zm) (r := r) (om := om) C fu _ _ _ _ _ _ hf hw (lv_sub hl [1, 2, 0] rfl)
  · have hf := it_p hf hc3
    refine lv_bipush (v := (-3 : Int32)) hx hb dX11_fours_10 rfl ?_
    obtain ⟨rfl, rfl⟩ := so2 hf
    exact r_iret C hw rfl dX11_fours_12
