set_option maxRecDepth 100000 in
set_option maxHeartbeats 4000000 in
theorem kX11_tell_122 {l : Launch} {g : evG} {p : Program} {e : Env} {s : State} {m : MethodId} {args : Array Value} {below : List Frame} {meth : Method} {c : Code} {A : Nat → Prop} {zm : Nat → Nat} {om : Gp} (C : ctx g p s m args meth c RX11 cX11_tell 5 none A) {rec122 : Gp → Int32 → Int32 → Int32 → Option (Gp)} (hr122 : ∀ (Tm : Gp) (x1 : Int32) (x2 : Int32) (x4 : Int32) (H : Heap) (locs : List Loc) (ls : Array Slot), rec122 Tm x1 x2 x4 = some (om) → wl g A s.heap (gcM g zm Tm) H locs → lv_has ls 5 [(0, .ref (zm 0)), (1, .int x1), (2, .int x2), (4, .int x4)] → W p l e (rmK 1 23) s m args below meth c H locs 0 0 (MQ below (Qv g A (gcM g zm om)) args s 0 0 A) (F0 m 122 ls [])) {Tm : Gp} {x1 : Int32} {x2 : Int32} {x4 : Int32} {H : Heap} {locs : List Loc} {ls : Array Slot} (hf : fX11_tell_122 rec122 Tm x1 x2 x4 = some (om)) (hw : wl g A s.heap (gcM g zm Tm) H locs) (hl : lv_has ls 5 [(0, .ref (zm 0)), (1, .int x1), (2, .int x2), (4, .int x4)]) : W p l e (rmK 1 23) s m args below meth c H locs 0 0 (MQ below (Qv g A (gcM g zm om)) args s 0 0 A) (F0 m 122 ls []) := by
  obtain ⟨hx, hb, hml, hown, hts, -⟩ := id C
  unfold fX11_tell_122 at hf
  refine lv_iload hx hb dX11_tell_122 (lv_at hl 3 rfl) ?_
  refine lv_iconst (v := (4 : Int32)) hx hb dX11_tell_124 rfl ?_
  refine lv_icmp_ge (tgt := 156) hx hb dX11_tell_125 (by decide) (fun hc3 => ?_) (fun hc3 => ?_)
  · have hf := it_p hf hc3
    obtain rfl := so1 hf
    exact r_vret C hw dX11_tell_156
  · have hf := it_n hf hc3
    refine lv_aload_n hx hb dX11_tell_128 rfl (lv_at hl 0 rfl) ?_
    refine r_get C hw 0 rfl cf_X11 8 (by decide) q4_181 (v := .ref (zm 5)) rfl dX11_tell_129 ?_
    refine lv_iconst (v := (4 : Int32)) hx hb dX11_tell_132 rfl ?_
    refine lv_iload_n hx hb dX11_tell_133 rfl (lv_at hl 2 rfl) ?_
    refine lv_imul hx hb dX11_tell_134 ?_
    refine lv_iload hx hb dX11_tell_135 (lv_at hl 3 rfl) ?_
    refine lv_iadd hx hb dX11_tell_137 ?_
    refine lv_aload_n hx hb dX11_tell_138 rfl (lv_at hl 0 rfl) ?_
    refine r_get C hw 0 rfl cf_X11 4 (by decide) q4_177 (v := .ref (zm 4)) rfl dX11_tell_139 ?_
    refine lv_iload_n hx hb dX11_tell_142 rfl (lv_at hl 1 rfl) ?_
    refine lv_iconst (v := (2 : Int32)) hx hb dX11_tell_143 rfl ?_
    refine lv_iadd hx hb dX11_tell_144 ?_
    refine lv_iload hx hb dX11_tell_145 (lv_at hl 3 rfl) ?_
    refine lv_iadd hx hb dX11_tell_147 ?_
    obtain ⟨hi1, hf⟩ := it_g hf
    refine r_iald C hw 4 (f := (Tm 4)) rfl hi1 dX11_tell_148 ?_
    obtain ⟨hi2, hf⟩ := it_g hf
    refine r_iast C hw 5 (f := (Tm 5)) rfl hi2 (ws' := (gcM g zm (u2 Tm 5 (((4 : Int32) * x2) + x4).toNatClampNeg (Tm 4 ((x1 + (2 : Int32)) + x4).toNatClampNeg)))) gcM_a5 dX11_tell_149 (fun H locs hw => ?_)
    refine lv_iinc (v := (x4 + (1 : Int32))) (lv' := [(4, .int (x4 + (1 : Int32))), (0, .ref (zm 0)), (1, .int x1), (2, .int x2)]) hx hb dX11_tell_150 hl (k := 3) rfl rfl (by decide) rfl (fun ls hl => ?_)
    refine lv_goto (tgt := 122) hx hb dX11_tell_153 (by decide) ?_
    exact hr122 _ _ _ _ _ _ _ hf hw (lv_sub hl [1, 2, 3, 0] rfl)
set_option maxRecDepth 100000 in
set_option maxHeartbeats 4000000 in
theorem klX11_tell_122 {l : Launch} {g : evG} {p : Program} {e : Env} {s : State} {m : MethodId} {args : Array Value} {below : List Frame} {meth : Method} {c : Code} {A : Nat → Prop} {zm : Nat → Nat} {om : Gp} (C : ctx g p s m args meth c RX11 cX11_tell 5 none A) : ∀ (n : Nat) (Tm : Gp) (x1 : Int32) (x2 : Int32) (x4 : Int32) (H : Heap) (locs : List Loc) (ls : Array Slot), lX11_tell_122 n Tm x1 x2 x4 = some (om) → wl g A s.heap (gcM g zm Tm) H locs → lv_has ls 5 [(0, .ref (zm 0)), (1, .int x1), (2, .int x2), (4, .int x4)] → W p l e (rmK 1 23) s m args below meth c H locs 0 0 (MQ below (Qv g A (gcM g zm om)) args s 0 0 A) (F0 m 122 ls []) := by
  intro n
  induction n with
  | zero => intro _ _ _ _ _ _ _ hf; exact no_f hf
  | succ n ih => intro _ _ _ _ _ _ _ hf hw hl; exact kX11_tell_122 (zm := zm) (om := om) C (rec122 := lX11_tell_122 n) ih hf hw hl
set_option maxRecDepth 100000 in
set_option maxHeartbeats 4000000 in
theorem kX11_tell_97 {l : Launch} {g : evG} {p : Program} {e : Env} {s : State} {m : MethodId} {args : Array Value} {below : List Frame} {meth : Method} {c : Code} {A : Nat → Prop} {zm : Nat → Nat} {om : Gp} (C : ctx g p s m args meth c RX11 cX11_tell 5 none A) {rec97 : Gp → Int32 → Option (Gp)} (hr97 : ∀ (Tm : Gp) (x4 : Int32) (H : Heap) (locs : List Loc) (ls : Array Slot), rec97 Tm x4 = some (om) → wl g A s.heap (gcM g zm Tm) H locs → lv_has ls 5 [(0, .ref (zm 0)), (4, .int x4)] → W p l e (rmK 1 23) s m args below meth c H locs 0 0 (MQ below (Qv g A (gcM g zm om)) args s 0 0 A) (F0 m 97 ls [])) {Tm : Gp} {x4 : Int32} {H : Heap} {locs : List Loc} {ls : Array Slot} (hf : fX11_tell_97 rec97 Tm x4 = some (om)) (hw : wl g A s.heap (gcM g zm Tm) H locs) (hl : lv_has ls 5 [(0, .ref (zm 0)), (4, .int x4)]) : W p l e (rmK 1 23) s m args below meth c H locs 0 0 (MQ below (Qv g A (gcM g zm om)) args s 0 0 A) (F0 m 97 ls []) := by
  obtain ⟨hx, hb, hml, hown, hts, -⟩ := id C
  unfold fX11_tell_97 at hf
  refine lv_iload hx hb dX11_tell_97 (lv_at hl 1 rfl) ?_
  refine lv_bipush (v := (96 : Int32)) hx hb dX11_tell_99 rfl ?_
  refine lv_icmp_ge (tgt := 118) hx hb dX11_tell_101 (by decide) (fun hc2 => ?_) (fun hc2 => ?_)
  · have hf := it_p hf hc2
    obtain rfl := so1 hf
    exact r_vret C hw dX11_tell_118
  · have hf := it_n hf hc2
    refine lv_aload_n hx hb dX11_tell_104 rfl (lv_at hl 0 rfl) ?_
    refine r_get C hw 0 rfl cf_X11 10 (by decide) q4_183 (v := .ref (zm 7)) rfl dX11_tell_105 ?_
    refine lv_iload hx hb dX11_tell_108 (lv_at hl 1 rfl) ?_
    refine lv_iconst (v := (5 : Int32)) hx hb dX11_tell_110 rfl ?_
    obtain ⟨hi1, hf⟩ := it_g hf
    refine r_iast C hw 7 (f := (Tm 7)) rfl hi1 (ws' := (gcM g zm (u2 Tm 7 x4.toNatClampNeg (5 : Int32)))) gcM_a7 dX11_tell_111 (fun H locs hw => ?_)
    refine lv_iinc (v := (x4 + (1 : Int32))) (lv' := [(4, .int (x4 + (1 : Int32))), (0, .ref (zm 0))]) hx hb dX11_tell_112 hl (k := 1) rfl rfl (by decide) rfl (fun ls hl => ?_)
    refine lv_goto (tgt := 97) hx hb dX11_tell_115 (by decide) ?_
    exact hr97 _ _ _ _ _ hf hw (lv_sub hl [1, 0] rfl)
set_option maxRecDepth 100000 in
set_option maxHeartbeats 4000000 in
theorem klX11_tell_97 {l : Launch} {g : evG} {p : Program} {e : Env} {s : State} {m : MethodId} {args : Array Value} {below : List Frame} {meth : Method} {c : Code} {A : Nat → Prop} {zm : Nat → Nat} {om : Gp} (C : ctx g p s m args meth c RX11 cX11_tell 5 none A) : ∀ (n : Nat) (Tm : Gp) (x4 : Int32) (H : Heap) (locs : List Loc) (ls : Array Slot), lX11_tell_97 n Tm x4 = some (om) → wl g A s.heap (gcM g zm Tm) H locs → lv_has ls 5 [(0, .ref (zm 0)), (4, .int x4)] → W p l e (rmK 1 23) s m args below meth c H locs 0 0 (MQ below (Qv g A (gcM g zm om)) args s 0 0 A) (F0 m 97 ls []) := by
  intro n
  induction n with
  | zero => intro _ _ _ _ _ hf; exact no_f hf
  | succ n ih => intro _ _ _ _ _ hf hw hl; exact kX11_tell_97 (zm := zm) (om := om) C (rec97 := lX11_tell_97 n) ih hf hw hl
set_option maxRecDepth 100000 in
set_option maxHeartbeats 4000000 in
theorem kX11_tell_73 {l : Launch} {g : evG} {p : Program} {e : Env} {s : State} {m : MethodId} {args : Array Value} {below : List Frame} {meth : Method} {c : Code} {A : Nat → Prop} {zm : Nat → Nat} {om : Gp} (C : ctx g p s m args meth c RX11 cX11_tell 5 none A) {rec73 : Gp → Int32 → Option (Gp)} (hr73 : ∀ (Tm : Gp) (x4 : Int32) (H : Heap) (locs : List Loc) (ls : Array Slot), rec73 Tm x4 = some (om) → wl g A s.heap (gcM g zm Tm) H locs → lv_has ls 5 [(0, .ref (zm 0)), (4, .int x4)] → W p l e (rmK 1 23) s m args below meth c H locs 0 0 (MQ below (Qv g A (gcM g zm om)) args s 0 0 A) (F0 m 73 ls [])) {Tm : Gp} {x4 : Int32} {H : Heap} {locs : List Loc} {ls : Array Slot} (hf : fX11_tell_73 rec73 Tm x4 = some (om)) (hw : wl g A s.heap (gcM g zm Tm) H locs) (hl : lv_has ls 5 [(0, .ref (zm 0)), (4, .int x4)]) : W p l e (rmK 1 23) s m args below meth c H locs 0 0 (MQ below (Qv g A (gcM g zm om)) args s 0 0 A) (F0 m 73 ls []) := by
  obtain ⟨hx, hb, hml, hown, hts, -⟩ := id C
  unfold fX11_tell_73 at hf
  refine lv_iload hx hb dX11_tell_73 (lv_at hl 1 rfl) ?_
  refine lv_bipush (v := (6 : Int32)) hx hb dX11_tell_75 rfl ?_
  refine lv_icmp_ge (tgt := 94) hx hb dX11_tell_77 (by decide) (fun hc2 => ?_) (fun hc2 => ?_)
  · have hf := it_p hf hc2
    refine lv_iconst (v := (0 : Int32)) hx hb dX11_tell_94 rfl ?_
    refine lv_istore (lv' := [(4, .int (0 : Int32)), (0, .ref (zm 0))]) hx hb dX11_tell_95 hl (by decide) rfl (fun ls hl => ?_)
    exact klX11_tell_97 (zm := zm) (om := om) C fu _ _ _ _ _ hf hw (lv_sub hl [1, 0] rfl)
  · have hf := it_n hf hc2
    refine lv_aload_n hx hb dX11_tell_80 rfl (lv_at hl 0 rfl) ?_
    refine r_get C hw 0 rfl cf_X11 9 (by decide) q4_182 (v := .ref (zm 6)) rfl dX11_tell_81 ?_
    refine lv_iload hx hb dX11_tell_84 (lv_at hl 1 rfl) ?_
    refine lv_iconst (v := (0 : Int32)) hx hb dX11_tell_86 rfl ?_
    obtain ⟨hi1, hf⟩ := it_g hf
    refine r_iast C hw 6 (f := (Tm 6)) rfl hi1 (ws' := (gcM g zm (u2 Tm 6 x4.toNatClampNeg (0 : Int32)))) gcM_a6 dX11_tell_87 (fun H locs hw => ?_)
    refine lv_iinc (v := (x4 + (1 : Int32))) (lv' := [(4, .int (x4 + (1 : Int32))), (0, .ref (zm 0))]) hx hb dX11_tell_88 hl (k := 1) rfl rfl (by decide) rfl (fun ls hl => ?_)
    refine lv_goto (tgt := 73) hx hb dX11_tell_91 (by decide) ?_
    exact hr73 _ _ _ _ _ hf hw (lv_sub hl [1, 0] rfl)
set_option maxRecDepth 100000 in
set_option maxHeartbeats 4000000 in
theorem klX11_tell_73 {l : Launch} {g : evG} {p : Program} {e : Env} {s : State} {m : MethodId} {args : Array Value} {below : List Frame} {meth : Method} {c : Code} {A : Nat → Prop} {zm : Nat → Nat} {om : Gp} (C : ctx g p s m args meth c RX11 cX11_tell 5 none A) : ∀ (n : Nat) (Tm : Gp) (x4 : Int32) (H : Heap) (locs : List Loc) (ls : Array Slot), lX11_tell_73 n Tm x4 = some (om) → wl g A s.heap (gcM g zm Tm) H locs → lv_has ls 5 [(0, .ref (zm 0)), (4, .int x4)] → W p l e (rmK 1 23) s m args below meth c H locs 0 0 (MQ below (Qv g A (gcM g zm om)) args s 0 0 A) (F0 m 73 ls []) := by
  intro n
  induction n with
  | zero => intro _ _ _ _ _ hf; exact no_f hf
  | succ n ih => intro _ _ _ _ _ hf hw hl; exact kX11_tell_73 (zm := zm) (om := om) C (rec73 := lX11_tell_73 n) ih hf hw hl
set_option maxRecDepth 100000 in
set_option maxHeartbeats 4000000 in
theorem c_X11_tell {l : Launch} {g : evG} {zm : Nat → Nat} {om : Gp}  {Tm : Gp} {x1 : Int32} (hf : fX11_tell Tm x1 = some (om)) : CTv l g yX11_tell (Cond.code yX11_tell cX11_tell 5 none) 1 23 [.ref (zm 0), .int x1] (gcM g zm Tm) (gcM g zm om) := by
  refine ct_v rfl (Nat.le_of_ble_eq_true rfl) ?_
  intro p e s m args below meth c A ls C hw hl
  have C : ctx g p s m args meth c RX11 cX11_tell 5 none A := C
  have hl : lv_has ls 5 [(0, .ref (zm 0)), (1, .int x1)] := hl
  obtain ⟨hx, hb, hml, hown, hts, -⟩ := id C
  unfold fX11_tell at hf
  refine lv_aload_n hx hb dX11_tell_0 rfl (lv_at hl 0 rfl) ?_
  refine r_get C hw 0 rfl cf_X11 4 (by decide) q4_177 (v := .ref (zm 4)) rfl dX11_tell_1 ?_
  refine lv_iload_n hx hb dX11_tell_4 rfl (lv_at hl 1 rfl) ?_
  refine lv_iconst (v := (1 : Int32)) hx hb dX11_tell_5 rfl ?_
  refine lv_iadd hx hb dX11_tell_6 ?_
  obtain ⟨hi1, hf⟩ := it_g hf
  refine r_iald C hw 4 (f := (Tm 4)) rfl hi1 dX11_tell_7 ?_
  refine lv_istore_n (lv' := [(2, .int (Tm 4 (x1 + (1 : Int32)).toNatClampNeg)), (0, .ref (zm 0)), (1, .int x1)]) hx hb dX11_tell_8 rfl hl (by decide) rfl (fun ls hl => ?_)
  refine lv_aload_n hx hb dX11_tell_9 rfl (lv_at hl 1 rfl) ?_
  refine r_get C hw 0 rfl cf_X11 4 (by decide) q4_177 (v := .ref (zm 4)) rfl dX11_tell_10 ?_
  refine lv_iload_n hx hb dX11_tell_13 rfl (lv_at hl 2 rfl) ?_
  refine lv_iconst (v := (2 : Int32)) hx hb dX11_tell_14 rfl ?_
  refine lv_iadd hx hb dX11_tell_15 ?_
  obtain ⟨hi2, hf⟩ := it_g hf
  refine r_iald C hw 4 (f := (Tm 4)) rfl hi2 dX11_tell_16 ?_
  refine lv_istore_n (lv' := [(3, .int (Tm 4 (x1 + (2 : Int32)).toNatClampNeg)), (2, .int (Tm 4 (x1 + (1 : Int32)).toNatClampNeg)), (0, .ref (zm 0)), (1, .int x1)]) hx hb dX11_tell_17 rfl hl (by decide) rfl (fun ls hl => ?_)
  refine lv_aload_n hx hb dX11_tell_18 rfl (lv_at hl 2 rfl) ?_
  refine r_get C hw 0 rfl cf_X11 4 (by decide) q4_177 (v := .ref (zm 4)) rfl dX11_tell_19 ?_
  refine lv_iload_n hx hb dX11_tell_22 rfl (lv_at hl 3 rfl) ?_
  obtain ⟨hi3, hf⟩ := it_g hf
  refine r_iald C hw 4 (f := (Tm 4)) rfl hi3 dX11_tell_23 ?_
  by_cases hs4 : (Tm 4 x1.toNatClampNeg) = (0 : Int32)
  · have hf := it_p hf hs4
    refine lv_tableIn (off := 36) (tgt := 60) hx hb dX11_tell_24 (by rw [hs4]; decide) (by rw [hs4]; decide) (by rw [hs4]; rfl) (by decide) ?_
    refine lv_aload_n hx hb dX11_tell_60 rfl (lv_at hl 2 rfl) ?_
    refine lv_iload_n hx hb dX11_tell_61 rfl (lv_at hl 1 rfl) ?_
    refine r_puti C hw 0 rfl cf_X11 6 (by decide) q4_179 rfl rfl (Nat.le_of_ble_eq_true rfl) (ws' := (gcM g zm (u2 Tm 0 6 (Tm 4 (x1 + (1 : Int32)).toNatClampNeg)))) gcM_p6 dX11_tell_62 (fun H locs hw => ?_)
    refine lv_aload_n hx hb dX11_tell_65 rfl (lv_at hl 2 rfl) ?_
    refine lv_iload_n hx hb dX11_tell_66 rfl (lv_at hl 0 rfl) ?_
    refine r_puti C hw 0 rfl cf_X11 7 (by decide) q4_180 rfl rfl (Nat.le_of_ble_eq_true rfl) (ws' := (gcM g zm (u2 (u2 Tm 0 6 (Tm 4 (x1 + (1 : Int32)).toNatClampNeg)) 0 7 (Tm 4 (x1 + (2 : Int32)).toNatClampNeg)))) gcM_p7 dX11_tell_67 (fun H locs hw => ?_)
    refine lv_iconst (v := (0 : Int32)) hx hb dX11_tell_70 rfl ?_
    refine lv_istore (lv' := [(4, .int (0 : Int32)), (3, .int (Tm 4 (x1 + (2 : Int32)).toNatClampNeg)), (2, .int (Tm 4 (x1 + (1 : Int32)).toNatClampNeg)), (0, .ref (zm 0)), (1, .int x1)]) hx hb dX11_tell_71 hl (by decide) rfl (fun ls hl => ?_)
    exact klX11_tell_73 (zm := zm) (om := om) C fu _ _ _ _ _ hf hw (lv_sub hl [3, 0] rfl)
  · have hf := it_n hf hs4
    by_cases hs5 : (Tm 4 x1.toNatClampNeg) = (1 : Int32)
    · have hf := it_p hf hs5
      refine lv_tableIn (off := 95) (tgt := 119) hx hb dX11_tell_24 (by rw [hs5]; decide) (by rw [hs5]; decide) (by rw [hs5]; rfl) (by decide) ?_
      refine lv_iconst (v := (0 : Int32)) hx hb dX11_tell_119 rfl ?_
      refine lv_istore (lv' := [(4, .int (0 : Int32)), (3, .int (Tm 4 (x1 + (2 : Int32)).toNatClampNeg)), (2, .int (Tm 4 (x1 + (1 : Int32)).toNatClampNeg)), (0, .ref (zm 0)), (1, .int x1)]) hx hb dX11_tell_120 hl (by decide) rfl (fun ls hl => ?_)
      exact klX11_tell_122 (zm := zm) (om := om) C fu _ _ _ _ _ _ _ hf hw (lv_sub hl [3, 4, 2, 0] rfl)
    · have hf := it_n hf hs5
      by_cases hs7 : (Tm 4 x1.toNatClampNeg) = (2 : Int32)
      · have hf := it_p hf hs7
        refine lv_tableIn (off := 133) (tgt := 157) hx hb dX11_tell_24 (by rw [hs7]; decide) (by rw [hs7]; decide) (by rw [hs7]; rfl) (by decide) ?_
        refine lv_aload_n hx hb dX11_tell_157 rfl (lv_at hl 2 rfl) ?_
        refine r_get C hw 0 rfl cf_X11 9 (by decide) q4_182 (v := .ref (zm 6)) rfl dX11_tell_158 ?_
        refine lv_iload_n hx hb dX11_tell_161 rfl (lv_at hl 1 rfl) ?_
        refine lv_iload_n hx hb dX11_tell_162 rfl (lv_at hl 0 rfl) ?_
        obtain ⟨hi6, hf⟩ := it_g hf
        refine r_iast C hw 6 (f := (Tm 6)) rfl hi6 (ws' := (gcM g zm (u2 Tm 6 (Tm 4 (x1 + (1 : Int32)).toNatClampNeg).toNatClampNeg (Tm 4 (x1 + (2 : Int32)).toNatClampNeg)))) gcM_a6 dX11_tell_163 (fun H locs hw => ?_)
        obtain rfl := so1 hf
        exact r_vret C hw dX11_tell_164
      · have hf := it_n hf hs7
        by_cases hs14 : (Tm 4 x1.toNatClampNeg) = (3 : Int32)
        · have hf := it_p hf hs14
          refine lv_tableIn (off := 141) (tgt := 165) hx hb dX11_tell_24 (by rw [hs14]; decide) (by rw [hs14]; decide) (by rw [hs14]; rfl) (by decide) ?_
          refine lv_aload_n hx hb dX11_tell_165 rfl (lv_at hl 2 rfl) ?_
          refine r_get C hw 0 rfl cf_X11 10 (by decide) q4_183 (v := .ref (zm 7)) rfl dX11_tell_166 ?_
          refine lv_iload_n hx hb dX11_tell_169 rfl (lv_at hl 1 rfl) ?_
          refine lv_iload_n hx hb dX11_tell_170 rfl (lv_at hl 0 rfl) ?_
          refine lv_aload_n hx hb dX11_tell_171 rfl (lv_at hl 2 rfl) ?_
          refine r_get C hw 0 rfl cf_X11 4 (by decide) q4_177 (v := .ref (zm 4)) rfl dX11_tell_172 ?_
          refine lv_iload_n hx hb dX11_tell_175 rfl (lv_at hl 3 rfl) ?_
          refine lv_iconst (v := (3 : Int32)) hx hb dX11_tell_176 rfl ?_
          refine lv_iadd hx hb dX11_tell_177 ?_
          obtain ⟨hi8, hf⟩ := it_g hf
          refine r_iald C hw 4 (f := (Tm 4)) rfl hi8 dX11_tell_178 ?_
          refine lv_aload_n hx hb dX11_tell_179 rfl (lv_at hl 2 rfl) ?_
          refine r_get C hw 0 rfl cf_X11 4 (by decide) q4_177 (v := .ref (zm 4)) rfl dX11_tell_180 ?_
          refine lv_iload_n hx hb dX11_tell_183 rfl (lv_at hl 3 rfl) ?_
          refine lv_iconst (v := (4 : Int32)) hx hb dX11_tell_184 rfl ?_
          refine lv_iadd hx hb dX11_tell_185 ?_
          obtain ⟨hi9, hf⟩ := it_g hf
          refine r_iald C hw 4 (f := (Tm 4)) rfl hi9 dX11_tell_186 ?_
          obtain ⟨r10, hc11, hf⟩ := bd1_e hf
          refine r_callSi0 C hw (c_X11_meantAt hc11) md_X11_meantAt [] rfl rfl q5_94 ⟨Nat.le_of_ble_eq_true rfl, Nat.le_of_ble_eq_true rfl⟩ ⟨Nat.zero_le _, Nat.zero_le _⟩ hl.1 rfl rfl (Nat.le_of_ble_eq_true rfl) dX11_tell_187 (fun H locs hw => ?_)
          refine lv_aload_n hx hb dX11_tell_190 rfl (lv_at hl 2 rfl) ?_
          refine r_get C hw 0 rfl cf_X11 4 (by decide) q4_177 (v := .ref (zm 4)) rfl dX11_tell_191 ?_
          refine lv_iload_n hx hb dX11_tell_194 rfl (lv_at hl 3 rfl) ?_
          refine lv_iconst (v := (5 : Int32)) hx hb dX11_tell_195 rfl ?_
          refine lv_iadd hx hb dX11_tell_196 ?_
          obtain ⟨hi12, hf⟩ := it_g hf
          refine r_iald C hw 4 (f := (Tm 4)) rfl hi12 dX11_tell_197 ?_
          obtain ⟨hi13, hf⟩ := it_g hf
          refine r_iast C hw 7 (f := (Tm 7)) rfl hi13 (ws' := (gcM g zm (u2 Tm 7 r10.toNatClampNeg (Tm 4 (x1 + (5 : Int32)).toNatClampNeg)))) gcM_a7 dX11_tell_198 (fun H locs hw => ?_)
          obtain rfl := so1 hf
          exact r_vret C hw dX11_tell_199
        · have hf := it_n hf hs14
          by_cases hs15 : (Tm 4 x1.toNatClampNeg) = (4 : Int32)
          · have hf := it_p hf hs15
            refine lv_tableIn (off := 176) (tgt := 200) hx hb dX11_tell_24 (by rw [hs15]; decide) (by rw [hs15]; decide) (by rw [hs15]; rfl) (by decide) ?_
            refine lv_aload_n hx hb dX11_tell_200 rfl (lv_at hl 2 rfl) ?_
            refine lv_iload_n hx hb dX11_tell_201 rfl (lv_at hl 1 rfl) ?_
            refine r_puti C hw 0 rfl cf_X11 11 (by decide) q4_184 rfl rfl (Nat.le_of_ble_eq_true rfl) (ws' := (gcM g zm (u2 Tm 0 11 (Tm 4 (x1 + (1 : Int32)).toNatClampNeg)))) gcM_p11 dX11_tell_202 (fun H locs hw => ?_)
            obtain rfl := so1 hf
            exact r_vret C hw dX11_tell_205
          · have hf := it_n hf hs15
            refine lv_tableOut (tgt := 206) hx hb dX11_tell_24 (sw_o (lo := 0) (hi := 4) (by decide) (by decide) (fun k h1 h2 => ?_)) (by decide) ?_
            · rcases (show k = 0 ∨ k = 1 ∨ k = 2 ∨ k = 3 ∨ k = 4 by omega) with rfl | rfl | rfl | rfl | rfl
              · exact hs4
              · exact hs5
              · exact hs7
              · exact hs14
              · exact hs15
            · refine lv_aload_n hx hb dX11_tell_206 rfl (lv_at hl 2 rfl) ?_
              refine lv_iload_n hx hb dX11_tell_207 rfl (lv_at hl 1 rfl) ?_
              refine r_puti C hw 0 rfl cf_X11 12 (by decide) q4_185 rfl rfl (Nat.le_of_ble_eq_true rfl) (ws' := (gcM g zm (u2 Tm 0 12 (Tm 4 (x1 + (1 : Int32)).toNatClampNeg)))) gcM_p12 dX11_tell_208 (fun H locs hw => ?_)
              obtain rfl := so1 hf
              exact r_vret C hw dX11_tell_211
set_option maxRecDepth 100000 in
set_option maxHeartbeats 4000000 in
theorem kX11_treaty_13 {l : Launch} {g : evG} {p : Program} {e : Env} {s : State} {m : MethodId} {args : Array Value} {below : List Frame} {meth : Method} {c : Code} {A : Nat → Prop} {zm : Nat → Nat} {r : Int32} {om : Gp} (C : ctx g p s m args meth c RX11 cX11_treaty 2 (some .int) A) {rec13 : Gp → Int32 → Option (Int32 × Gp)} (hr13 : ∀ (Tm : Gp) (x1 : Int32) (H : Heap) (locs : List Loc) (ls : Array Slot), rec13 Tm x1 = some (r, om) → wl g A s.heap (gcM g zm Tm) H locs → lv_has ls 2 [(0, .ref (zm 0)), (1, .int x1)] → W p l e (rmK 7 152) s m args below meth c H locs 0 0 (MQ below (Qi g A (gcM g zm om) r) args s 0 0 A) (F0 m 13 ls [])) {Tm : Gp} {x1 : Int32} {H : Heap} {locs : List Loc} {ls : Array Slot} (hf : fX11_treaty_13 rec13 Tm x1 = some (r, om)) (hw : wl g A s.heap (gcM g zm Tm) H locs) (hl : lv_has ls 2 [(0, .ref (zm 0)), (1, .int x1)]) : W p l e (rmK 7 152) s m args below meth c H locs 0 0 (MQ below (Qi g A (gcM g zm om) r) args s 0 0 A) (F0 m 13 ls []) := by
  obtain ⟨hx, hb, hml, hown, hts, -⟩ := id C
  unfold fX11_treaty_13 at hf
  refine lv_iload_n hx hb dX11_treaty_13 rfl (lv_at hl 1 rfl) ?_
  refine lv_aload_n hx hb dX11_treaty_14 rfl (lv_at hl 0 rfl) ?_
  refine r_get C hw 0 rfl cf_X11 5 (by decide) q4_178 (v := .int (Tm 0 5)) rfl dX11_treaty_15 ?_
  refine lv_icmp_ge (tgt := 35) hx hb dX11_treaty_18 (by decide) (fun hc5 => ?_) (fun hc5 => ?_)
  · have hf := it_p hf hc5
    refine lv_aload_n hx hb dX11_treaty_35 rfl (lv_at hl 0 rfl) ?_
    obtain ⟨Tm_1, hc2, hf⟩ := bd1_e hf
    refine r_callVvF C hw (c_X11_begin (zm := zm) hc2) md_X11_begin [0, 1, 2, 3, 4, 5, 6, 7, 8, 9, 10, 11, 12, 13, 14, 15, 16, 17, 18] rfl rfl rfl rfl q4_169 0 rfl cf_X11.1 ⟨Nat.le_of_ble_eq_true rfl, Nat.le_of_ble_eq_true rfl⟩ ⟨Nat.zero_le _, Nat.zero_le _⟩ hl.1 rfl rfl (Nat.le_of_ble_eq_true rfl) dX11_treaty_36 (fun H locs hw => ?_)
    refine lv_aload_n hx hb dX11_treaty_39 rfl (lv_at hl 0 rfl) ?_
    refine r_get C hw 0 rfl cf_X11 1 (by decide) q4_174 (v := .ref (zm 2)) rfl dX11_treaty_40 ?_
    refine lv_iconst (v := (0 : Int32)) hx hb dX11_treaty_43 rfl ?_
    refine lv_iconst (v := (0 : Int32)) hx hb dX11_treaty_44 rfl ?_
    refine r_zast C hw 2 (f := (Tm_1 2)) rfl (by decide) (ws' := (gcM g zm (u2 Tm_1 2 (0 : Int32).toNatClampNeg (vp_nar .boolean (0 : Int32))))) gcM_a2 dX11_treaty_45 (fun H locs hw => ?_)
    refine lv_aload_n hx hb dX11_treaty_46 rfl (lv_at hl 0 rfl) ?_
    refine r_get C hw 0 rfl cf_X11 1 (by decide) q4_174 (v := .ref (zm 2)) rfl dX11_treaty_47 ?_
    refine lv_iconst (v := (1 : Int32)) hx hb dX11_treaty_50 rfl ?_
    refine lv_iconst (v := (0 : Int32)) hx hb dX11_treaty_51 rfl ?_
    refine r_zast C hw 2 (f := ((u2 Tm_1 2 (0 : Int32).toNatClampNeg (vp_nar .boolean (0 : Int32))) 2)) rfl (by decide) (ws' := (gcM g zm (u2 (u2 Tm_1 2 (0 : Int32).toNatClampNeg (vp_nar .boolean (0 : Int32))) 2 (1 : Int32).toNatClampNeg (vp_nar .boolean (0 : Int32))))) gcM_a2 dX11_treaty_52 (fun H locs hw => ?_)
    refine lv_aload_n hx hb dX11_treaty_53 rfl (lv_at hl 0 rfl) ?_
    refine lv_iconst (v := (0 : Int32)) hx hb dX11_treaty_54 rfl ?_
    refine r_puti C hw 0 rfl cf_X11 3 (by decide) q4_176 rfl rfl (Nat.le_of_ble_eq_true rfl) (ws' := (gcM g zm (u2 (u2 (u2 Tm_1 2 (0 : Int32).toNatClampNeg (vp_nar .boolean (0 : Int32))) 2 (1 : Int32).toNatClampNeg (vp_nar .boolean (0 : Int32))) 0 3 (0 : Int32)))) gcM_p3 dX11_treaty_55 (fun H locs hw => ?_)
    refine lv_aload_n hx hb dX11_treaty_58 rfl (lv_at hl 0 rfl) ?_
    refine r_get C hw 0 rfl cf_X11 5 (by decide) q4_178 (v := .int (Tm_1 0 5)) rfl dX11_treaty_59 ?_
    obtain ⟨rfl, rfl⟩ := so2 hf
    exact r_iret C hw rfl dX11_treaty_62
  · have hf := it_n hf hc5
    refine lv_aload_n hx hb dX11_treaty_21 rfl (lv_at hl 0 rfl) ?_
    refine lv_bipush (v := (6 : Int32)) hx hb dX11_treaty_22 rfl ?_
    refine lv_iload_n hx hb dX11_treaty_24 rfl (lv_at hl 1 rfl) ?_
    refine lv_imul hx hb dX11_treaty_25 ?_
    obtain ⟨Tm_3, hc4, hf⟩ := bd1_e hf
    refine r_callVvF C hw (c_X11_tell (zm := zm) hc4) md_X11_tell [0, 1, 2, 3, 4, 5, 6, 7, 8, 9, 10, 11, 12, 13, 14, 15, 16, 17, 18] rfl rfl rfl rfl q5_90 0 rfl cf_X11.1 ⟨Nat.le_of_ble_eq_true rfl, Nat.le_of_ble_eq_true rfl⟩ ⟨Nat.zero_le _, Nat.zero_le _⟩ hl.1 rfl rfl (Nat.le_of_ble_eq_true rfl) dX11_treaty_26 (fun H locs hw => ?_)
    refine lv_iinc (v := (x1 + (1 : Int32))) (lv' := [(1, .int (x1 + (1 : Int32))), (0, .ref (zm 0))]) hx hb dX11_treaty_29 hl (k := 1) rfl rfl (by decide) rfl (fun ls hl => ?_)
    refine lv_goto (tgt := 13) hx hb dX11_treaty_32 (by decide) ?_
    exact hr13 _ _ _ _ _ hf hw (lv_sub hl [1, 0] rfl)
set_option maxRecDepth 100000 in
set_option maxHeartbeats 4000000 in
theorem klX11_treaty_13 {l : Launch} {g : evG} {p : Program} {e : Env} {s : State} {m : MethodId} {args : Array Value} {below : List Frame} {meth : Method} {c : Code} {A : Nat → Prop} {zm : Nat → Nat} {r : Int32} {om : Gp} (C : ctx g p s m args meth c RX11 cX11_treaty 2 (some .int) A) : ∀ (n : Nat) (Tm : Gp) (x1 : Int32) (H : Heap) (locs : List Loc) (ls : Array Slot), lX11_treaty_13 n Tm x1 = some (r, om) → wl g A s.heap (gcM g zm Tm) H locs → lv_has ls 2 [(0, .ref (zm 0)), (1, .int x1)] → W p l e (rmK 7 152) s m args below meth c H locs 0 0 (MQ below (Qi g A (gcM g zm om) r) args s 0 0 A) (F0 m 13 ls []) := by
  intro n
  induction n with
  | zero => intro _ _ _ _ _ hf; exact no_f hf
  | succ n ih => intro _ _ _ _ _ hf hw hl; exact kX11_treaty_13 (zm := zm) (r := r) (om := om) C (rec13 := lX11_treaty_13 n) ih hf hw hl
set_option maxRecDepth 100000 in
set_option maxHeartbeats 4000000 in
theorem c_X11_treaty {l : Launch} {g : evG} {zm : Nat → Nat} {r : Int32} {om : Gp}  {Tm : Gp} (hf : fX11_treaty Tm = some (r, om)) : CTi l g yX11_treaty (Cond.code yX11_treaty cX11_treaty 2 (some .int)) 7 152 [.ref (zm 0)] (gcM g zm Tm) (gcM g zm om) r := by
  refine ct_i rfl (Nat.le_of_ble_eq_true rfl) ?_
  intro p e s m args below meth c A ls C hw hl
  have C : ctx g p s m args meth c RX11 cX11_treaty 2 (some .int) A := C
  have hl : lv_has ls 2 [(0, .ref (zm 0))] := hl
  obtain ⟨hx, hb, hml, hown, hts, -⟩ := id C
  unfold fX11_treaty at hf
  refine lv_aload_n hx hb dX11_treaty_0 rfl (lv_at hl 0 rfl) ?_
  obtain ⟨r1, Tm_2, hc3, hf⟩ := bd2_e hf
  refine r_callViF C hw (c_X11_fault (zm := zm) hc3) md_X11_fault [0, 1, 2, 3, 4, 5, 6, 7, 8, 9, 10, 11, 12, 13, 14, 15, 16, 17, 18] rfl rfl rfl rfl q5_89 0 rfl cf_X11.1 ⟨Nat.le_of_ble_eq_true rfl, Nat.le_of_ble_eq_true rfl⟩ ⟨Nat.zero_le _, Nat.zero_le _⟩ hl.1 rfl rfl (Nat.le_of_ble_eq_true rfl) dX11_treaty_1 (fun H locs hw => ?_)
  refine lv_iconst (v := (-1 : Int32)) hx hb dX11_treaty_4 rfl ?_
  refine lv_icmp_eq (tgt := 11) hx hb dX11_treaty_5 (by decide) (fun hc4 => ?_) (fun hc4 => ?_)
  · have hf := it_p hf hc4
    refine lv_iconst (v := (0 : Int32)) hx hb dX11_treaty_11 rfl ?_
    refine lv_istore_n (lv' := [(1, .int (0 : Int32)), (0, .ref (zm 0))]) hx hb dX11_treaty_12 rfl hl (by decide) rfl (fun ls hl => ?_)
    exact klX11_treaty_13 (zm := zm) (r := r) (om := om) C fu _ _ _ _ _ hf hw (lv_sub hl [1, 0] rfl)
  · have hf := it_n hf hc4
    refine lv_bipush (v := (-4 : Int32)) hx hb dX11_treaty_8 rfl ?_
    obtain ⟨rfl, rfl⟩ := so2 hf
    exact r_iret C hw rfl dX11_treaty_10
set_option maxRecDepth 100000 in
set_option maxHeartbeats 4000000 in
theorem c_X11_work {l : Launch} {g : evG} {zm : Nat → Nat} {r : Int32}  {Tm : Gp} {x1 : Int32} {x2 : Int32} (hf : fX11_work Tm x1 x2 = some (r)) : CTi l g yX11_work (Cond.code yX11_work cX11_work 3 (some .int)) 1 25 [.ref (zm 0), .int x1, .int x2] (gcM g zm Tm) (gcM g zm Tm) r := by
  refine ct_i rfl (Nat.le_of_ble_eq_true rfl) ?_
  intro p e s m args below meth c A ls C hw hl
  have C : ctx g p s m args meth c RX11 cX11_work 3 (some .int) A := C
  have hl : lv_has ls 3 [(0, .ref (zm 0)), (1, .int x1), (2, .int x2)] := hl
  obtain ⟨hx, hb, hml, hown, hts, -⟩ := id C
  unfold fX11_work at hf
  refine lv_iload_n hx hb dX11_work_0 rfl (lv_at hl 1 rfl) ?_
  refine lv_i2l hx hb dX11_work_1 rfl ?_
  refine lv_lconst (v := (0 : Int64)) hx hb dX11_work_2 rfl ?_
  refine lv_ldc2 (v := (5 : Int64)) hx hb hown (hts _ q5_101) dX11_work_3 ?_
  obtain ⟨r1, hc2, hf⟩ := bd1_e hf
  refine r_callSi0 C hw (c_X11_in hc2) md_X11_in [] rfl rfl q5_32 ⟨Nat.le_of_ble_eq_true rfl, Nat.le_of_ble_eq_true rfl⟩ ⟨Nat.zero_le _, Nat.zero_le _⟩ hl.1 rfl rfl (Nat.le_of_ble_eq_true rfl) dX11_work_6 (fun H locs hw => ?_)
  refine lv_if_ne (tgt := 15) hx hb dX11_work_9 (by decide) (fun hc7 => ?_) (fun hc7 => ?_)
  · have hf := it_n hf hc7
    refine lv_iload_n hx hb dX11_work_15 rfl (lv_at hl 2 rfl) ?_
    refine lv_i2l hx hb dX11_work_16 rfl ?_
    refine lv_lconst (v := (0 : Int64)) hx hb dX11_work_17 rfl ?_
    refine lv_ldc2 (v := (3 : Int64)) hx hb hown (hts _ q5_102) dX11_work_18 ?_
    obtain ⟨r3, hc4, hf⟩ := bd1_e hf
    refine r_callSi0 C hw (c_X11_in hc4) md_X11_in [] rfl rfl q5_32 ⟨Nat.le_of_ble_eq_true rfl, Nat.le_of_ble_eq_true rfl⟩ ⟨Nat.zero_le _, Nat.zero_le _⟩ hl.1 rfl rfl (Nat.le_of_ble_eq_true rfl) dX11_work_21 (fun H locs hw => ?_)
    refine lv_if_eq (tgt := 40) hx hb dX11_work_24 (by decide) (fun hc6 => ?_) (fun hc6 => ?_)
    · have hf := it_p hf hc6
      refine lv_bipush (v := (-3 : Int32)) hx hb dX11_work_40 rfl ?_
      obtain rfl := so1 hf
      exact r_iret C hw rfl dX11_work_42
    · have hf := it_n hf hc6
      refine lv_aload_n hx hb dX11_work_27 rfl (lv_at hl 0 rfl) ?_
      refine r_get C hw 0 rfl cf_X11 8 (by decide) q4_181 (v := .ref (zm 5)) rfl dX11_work_28 ?_
      refine lv_iconst (v := (4 : Int32)) hx hb dX11_work_31 rfl ?_
      refine lv_iload_n hx hb dX11_work_32 rfl (lv_at hl 1 rfl) ?_
      refine lv_imul hx hb dX11_work_33 ?_
      refine lv_iload_n hx hb dX11_work_34 rfl (lv_at hl 2 rfl) ?_
      refine lv_iadd hx hb dX11_work_35 ?_
      obtain ⟨hi5, hf⟩ := it_g hf
      refine r_iald C hw 5 (f := (Tm 5)) rfl hi5 dX11_work_36 ?_
      refine lv_goto (tgt := 42) hx hb dX11_work_37 (by decide) ?_
      obtain rfl := so1 hf
      exact r_iret C hw rfl dX11_work_42
  · have hf := it_p hf hc7
    refine lv_bipush (v := (-2 : Int32)) hx hb dX11_work_12 rfl ?_
    obtain rfl := so1 hf
    exact r_iret C hw rfl dX11_work_14
set_option maxRecDepth 100000 in
set_option maxHeartbeats 4000000 in
theorem c_X11_isValley {l : Launch} {g : evG}  {r : Int32}  {x0 : Int32} (hf : fX11_isValley x0 = some (r)) : CTi l g yX11_isValley (Cond.code yX11_isValley cX11_isValley 1 (some .boolean)) 1 25 [.int x0] ([] : va_W) ([] : va_W) r := by
  refine ct_i rfl (Nat.le_of_ble_eq_true rfl) ?_
  intro p e s m args below meth c A ls C hw hl
  have C : ctx g p s m args meth c RX11 cX11_isValley 1 (some .boolean) A := C
  have hl : lv_has ls 1 [(0, .int x0)] := hl
  obtain ⟨hx, hb, hml, hown, hts, -⟩ := id C
  unfold fX11_isValley at hf
  refine lv_iload_n hx hb dX11_isValley_0 rfl (lv_at hl 0 rfl) ?_
  refine lv_i2l hx hb dX11_isValley_1 rfl ?_
  refine lv_lconst (v := (0 : Int64)) hx hb dX11_isValley_2 rfl ?_
  refine lv_lconst (v := (1 : Int64)) hx hb dX11_isValley_3 rfl ?_
  obtain ⟨r1, hc2, hf⟩ := bd1_e hf
  refine r_callSi0 C hw (c_X11_in hc2) md_X11_in [] rfl rfl q5_32 ⟨Nat.le_of_ble_eq_true rfl, Nat.le_of_ble_eq_true rfl⟩ ⟨Nat.zero_le _, Nat.zero_le _⟩ hl.1 rfl rfl (Nat.le_of_ble_eq_true rfl) dX11_isValley_4 (fun H locs hw => ?_)
  obtain ⟨hn, hf⟩ := it_g hf
  obtain rfl := so1 hf
  exact r_zret C hw rfl hn dX11_isValley_7
set_option maxRecDepth 100000 in
set_option maxHeartbeats 4000000 in
theorem c_X11_isPair {l : Launch} {g : evG} {zm : Nat → Nat} {r : Int32}  {Tm : Gp} {x1 : Int32} (hf : fX11_isPair Tm x1 = some (r)) : CTi l g yX11_isPair (Cond.code yX11_isPair cX11_isPair 2 (some .boolean)) 1 25 [.ref (zm 0), .int x1] (gcM g zm Tm) (gcM g zm Tm) r := by
  refine ct_i rfl (Nat.le_of_ble_eq_true rfl) ?_
  intro p e s m args below meth c A ls C hw hl
  have C : ctx g p s m args meth c RX11 cX11_isPair 2 (some .boolean) A := C
  have hl : lv_has ls 2 [(0, .ref (zm 0)), (1, .int x1)] := hl
  obtain ⟨hx, hb, hml, hown, hts, -⟩ := id C
  unfold fX11_isPair at hf
  refine lv_iload_n hx hb dX11_isPair_0 rfl (lv_at hl 1 rfl) ?_
  refine lv_i2l hx hb dX11_isPair_1 rfl ?_
  refine lv_lconst (v := (0 : Int64)) hx hb dX11_isPair_2 rfl ?_
  refine lv_aload_n hx hb dX11_isPair_3 rfl (lv_at hl 0 rfl) ?_
  refine r_get C hw 0 rfl cf_X11 6 (by decide) q4_179 (v := .int (Tm 0 6)) rfl dX11_isPair_4 ?_
  refine lv_iconst (v := (1 : Int32)) hx hb dX11_isPair_7 rfl ?_
  refine lv_isub hx hb dX11_isPair_8 ?_
  refine lv_i2l hx hb dX11_isPair_9 rfl ?_
  obtain ⟨r1, hc2, hf⟩ := bd1_e hf
  refine r_callSi0 C hw (c_X11_in hc2) md_X11_in [] rfl rfl q5_32 ⟨Nat.le_of_ble_eq_true rfl, Nat.le_of_ble_eq_true rfl⟩ ⟨Nat.zero_le _, Nat.zero_le _⟩ hl.1 rfl rfl (Nat.le_of_ble_eq_true rfl) dX11_isPair_10 (fun H locs hw => ?_)
  obtain ⟨hn, hf⟩ := it_g hf
  obtain rfl := so1 hf
  exact r_zret C hw rfl hn dX11_isPair_13
set_option maxRecDepth 100000 in
set_option maxHeartbeats 4000000 in
theorem c_X11_isHour {l : Launch} {g : evG} {zm : Nat → Nat} {r : Int32}  {Tm : Gp} {x1 : Int32} (hf : fX11_isHour Tm x1 = some (r)) : CTi l g yX11_isHour (Cond.code yX11_isHour cX11_isHour 2 (some .boolean)) 1 25 [.ref (zm 0), .int x1] (gcM g zm Tm) (gcM g zm Tm) r := by
  refine ct_i rfl (Nat.le_of_ble_eq_true rfl) ?_
  intro p e s m args below meth c A ls C hw hl
  have C : ctx g p s m args meth c RX11 cX11_isHour 2 (some .boolean) A := C
  have hl : lv_has ls 2 [(0, .ref (zm 0)), (1, .int x1)] := hl
  obtain ⟨hx, hb, hml, hown, hts, -⟩ := id C
  unfold fX11_isHour at hf
  refine lv_iload_n hx hb dX11_isHour_0 rfl (lv_at hl 1 rfl) ?_
  refine lv_i2l hx hb dX11_isHour_1 rfl ?_
  refine lv_lconst (v := (0 : Int64)) hx hb dX11_isHour_2 rfl ?_
  refine lv_aload_n hx hb dX11_isHour_3 rfl (lv_at hl 0 rfl) ?_
  refine r_get C hw 0 rfl cf_X11 7 (by decide) q4_180 (v := .int (Tm 0 7)) rfl dX11_isHour_4 ?_
  refine lv_iconst (v := (1 : Int32)) hx hb dX11_isHour_7 rfl ?_
  refine lv_isub hx hb dX11_isHour_8 ?_
  refine lv_i2l hx hb dX11_isHour_9 rfl ?_
  obtain ⟨r1, hc2, hf⟩ := bd1_e hf
  refine r_callSi0 C hw (c_X11_in hc2) md_X11_in [] rfl rfl q5_32 ⟨Nat.le_of_ble_eq_true rfl, Nat.le_of_ble_eq_true rfl⟩ ⟨Nat.zero_le _, Nat.zero_le _⟩ hl.1 rfl rfl (Nat.le_of_ble_eq_true rfl) dX11_isHour_10 (fun H locs hw => ?_)
  obtain ⟨hn, hf⟩ := it_g hf
  obtain rfl := so1 hf
  exact r_zret C hw rfl hn dX11_isHour_13
set_option maxRecDepth 100000 in
set_option maxHeartbeats 4000000 in
theorem c_X11_meant {l : Launch} {g : evG} {zm : Nat → Nat} {r : Int32}  {Tm : Gp} {x1 : Int32} {x2 : Int32} {x3 : Int32} {x4 : Int32} (hf : fX11_meant Tm x1 x2 x3 x4 = some (r)) : CTi l g yX11_meant (Cond.code yX11_meant cX11_meant 5 (some .int)) 2 46 [.ref (zm 0), .int x1, .int x2, .int x3, .int x4] (gcM g zm Tm) (gcM g zm Tm) r := by
  refine ct_i rfl (Nat.le_of_ble_eq_true rfl) ?_
  intro p e s m args below meth c A ls C hw hl
  have C : ctx g p s m args meth c RX11 cX11_meant 5 (some .int) A := C
  have hl : lv_has ls 5 [(0, .ref (zm 0)), (1, .int x1), (2, .int x2), (3, .int x3), (4, .int x4)] := hl
  obtain ⟨hx, hb, hml, hown, hts, -⟩ := id C
  unfold fX11_meant at hf
  refine lv_iload_n hx hb dX11_meant_0 rfl (lv_at hl 2 rfl) ?_
  obtain ⟨r1, hc2, hf⟩ := bd1_e hf
  refine r_callSi0 C hw (c_X11_isValley hc2) md_X11_isValley [] rfl rfl q5_107 ⟨Nat.le_of_ble_eq_true rfl, Nat.le_of_ble_eq_true rfl⟩ ⟨Nat.zero_le _, Nat.zero_le _⟩ hl.1 rfl rfl (Nat.le_of_ble_eq_true rfl) dX11_meant_1 (fun H locs hw => ?_)
  refine lv_if_eq (tgt := 24) hx hb dX11_meant_4 (by decide) (fun hc15 => ?_) (fun hc15 => ?_)
  · have hf := it_p hf hc15
    refine lv_bipush (v := (-2 : Int32)) hx hb dX11_meant_24 rfl ?_
    obtain rfl := so1 hf
    exact r_iret C hw rfl dX11_meant_26
  · have hf := it_n hf hc15
    refine lv_aload_n hx hb dX11_meant_7 rfl (lv_at hl 0 rfl) ?_
    refine lv_iload_n hx hb dX11_meant_8 rfl (lv_at hl 3 rfl) ?_
    obtain ⟨r3, hc4, hf⟩ := bd1_e hf
    refine r_callVi0 C hw (c_X11_isPair (zm := zm) hc4) md_X11_isPair [0, 1, 2, 3, 4, 5, 6, 7, 8, 9, 10, 11, 12, 13, 14, 15, 16, 17, 18] rfl rfl q5_110 0 rfl cf_X11.1 ⟨Nat.le_of_ble_eq_true rfl, Nat.le_of_ble_eq_true rfl⟩ ⟨Nat.zero_le _, Nat.zero_le _⟩ hl.1 rfl rfl (Nat.le_of_ble_eq_true rfl) dX11_meant_9 (fun H locs hw => ?_)
    refine lv_if_eq (tgt := 24) hx hb dX11_meant_12 (by decide) (fun hc14 => ?_) (fun hc14 => ?_)
    · have hf := it_p hf hc14
      refine lv_bipush (v := (-2 : Int32)) hx hb dX11_meant_24 rfl ?_
      obtain rfl := so1 hf
      exact r_iret C hw rfl dX11_meant_26
    · have hf := it_n hf hc14
      refine lv_aload_n hx hb dX11_meant_15 rfl (lv_at hl 0 rfl) ?_
      refine lv_iload hx hb dX11_meant_16 (lv_at hl 4 rfl) ?_
      obtain ⟨r5, hc6, hf⟩ := bd1_e hf
      refine r_callVi0 C hw (c_X11_isHour (zm := zm) hc6) md_X11_isHour [0, 1, 2, 3, 4, 5, 6, 7, 8, 9, 10, 11, 12, 13, 14, 15, 16, 17, 18] rfl rfl q5_114 0 rfl cf_X11.1 ⟨Nat.le_of_ble_eq_true rfl, Nat.le_of_ble_eq_true rfl⟩ ⟨Nat.zero_le _, Nat.zero_le _⟩ hl.1 rfl rfl (Nat.le_of_ble_eq_true rfl) dX11_meant_18 (fun H locs hw => ?_)
      refine lv_if_ne (tgt := 27) hx hb dX11_meant_21 (by decide) (fun hc13 => ?_) (fun hc13 => ?_)
      · have hf := it_n hf hc13
        refine lv_iload_n hx hb dX11_meant_27 rfl (lv_at hl 1 rfl) ?_
        refine lv_i2l hx hb dX11_meant_28 rfl ?_
        refine lv_lconst (v := (0 : Int64)) hx hb dX11_meant_29 rfl ?_
        refine lv_lconst (v := (1 : Int64)) hx hb dX11_meant_30 rfl ?_
        obtain ⟨r7, hc8, hf⟩ := bd1_e hf
        refine r_callSi0 C hw (c_X11_in hc8) md_X11_in [] rfl rfl q5_32 ⟨Nat.le_of_ble_eq_true rfl, Nat.le_of_ble_eq_true rfl⟩ ⟨Nat.zero_le _, Nat.zero_le _⟩ hl.1 rfl rfl (Nat.le_of_ble_eq_true rfl) dX11_meant_31 (fun H locs hw => ?_)
        refine lv_if_eq (tgt := 53) hx hb dX11_meant_34 (by decide) (fun hc12 => ?_) (fun hc12 => ?_)
        · have hf := it_p hf hc12
          refine lv_bipush (v := (-3 : Int32)) hx hb dX11_meant_53 rfl ?_
          obtain rfl := so1 hf
          exact r_iret C hw rfl dX11_meant_55
        · have hf := it_n hf hc12
          refine lv_aload_n hx hb dX11_meant_37 rfl (lv_at hl 0 rfl) ?_
          refine r_get C hw 0 rfl cf_X11 10 (by decide) q4_183 (v := .ref (zm 7)) rfl dX11_meant_38 ?_
          refine lv_iload_n hx hb dX11_meant_41 rfl (lv_at hl 1 rfl) ?_
          refine lv_iload_n hx hb dX11_meant_42 rfl (lv_at hl 2 rfl) ?_
          refine lv_iload_n hx hb dX11_meant_43 rfl (lv_at hl 3 rfl) ?_
          refine lv_iload hx hb dX11_meant_44 (lv_at hl 4 rfl) ?_
          obtain ⟨r9, hc10, hf⟩ := bd1_e hf
          refine r_callSi0 C hw (c_X11_meantAt hc10) md_X11_meantAt [] rfl rfl q5_94 ⟨Nat.le_of_ble_eq_true rfl, Nat.le_of_ble_eq_true rfl⟩ ⟨Nat.zero_le _, Nat.zero_le _⟩ hl.1 rfl rfl (Nat.le_of_ble_eq_true rfl) dX11_meant_46 (fun H locs hw => ?_)
          obtain ⟨hi11, hf⟩ := it_g hf
          refine r_iald C hw 7 (f := (Tm 7)) rfl hi11 dX11_meant_49 ?_
          refine lv_goto (tgt := 55) hx hb dX11_meant_50 (by decide) ?_
          obtain rfl := so1 hf
          exact r_iret C hw rfl dX11_meant_55
      · have hf := it_p hf hc13
        refine lv_bipush (v := (-2 : Int32)) hx hb dX11_meant_24 rfl ?_
        obtain rfl := so1 hf
        exact r_iret C hw rfl dX11_meant_26
set_option maxRecDepth 100000 in
set_option maxHeartbeats 4000000 in
theorem c_X11_done {l : Launch} {g : evG} {zm : Nat → Nat} {r : Int32} {om : Gp}  {Tm : Gp} {x1 : Int32} {x2 : Int32} {x3 : Int32} {x4 : Int32} (hf : fX11_done Tm x1 x2 x3 x4 = some (r, om)) : CTi l g yX11_done (Cond.code yX11_done cX11_done 5 (some .int)) 2 46 [.ref (zm 0), .int x1, .int x2, .int x3, .int x4] (gcM g zm Tm) (gcM g zm om) r := by
  refine ct_i rfl (Nat.le_of_ble_eq_true rfl) ?_
  intro p e s m args below meth c A ls C hw hl
  have C : ctx g p s m args meth c RX11 cX11_done 5 (some .int) A := C
  have hl : lv_has ls 5 [(0, .ref (zm 0)), (1, .int x1), (2, .int x2), (3, .int x3), (4, .int x4)] := hl
  obtain ⟨hx, hb, hml, hown, hts, -⟩ := id C
  unfold fX11_done at hf
  refine lv_iload_n hx hb dX11_done_0 rfl (lv_at hl 1 rfl) ?_
  obtain ⟨r1, hc2, hf⟩ := bd1_e hf
  refine r_callSi0 C hw (c_X11_isValley hc2) md_X11_isValley [] rfl rfl q5_107 ⟨Nat.le_of_ble_eq_true rfl, Nat.le_of_ble_eq_true rfl⟩ ⟨Nat.zero_le _, Nat.zero_le _⟩ hl.1 rfl rfl (Nat.le_of_ble_eq_true rfl) dX11_done_1 (fun H locs hw => ?_)
  refine lv_if_eq (tgt := 36) hx hb dX11_done_4 (by decide) (fun hc15 => ?_) (fun hc15 => ?_)
  · have hf := it_p hf hc15
    refine lv_bipush (v := (-2 : Int32)) hx hb dX11_done_36 rfl ?_
    obtain ⟨rfl, rfl⟩ := so2 hf
    exact r_iret C hw rfl dX11_done_38
  · have hf := it_n hf hc15
    refine lv_aload_n hx hb dX11_done_7 rfl (lv_at hl 0 rfl) ?_
    refine lv_iload_n hx hb dX11_done_8 rfl (lv_at hl 2 rfl) ?_
    obtain ⟨r3, hc4, hf⟩ := bd1_e hf
    refine r_callVi0 C hw (c_X11_isPair (zm := zm) hc4) md_X11_isPair [0, 1, 2, 3, 4, 5, 6, 7, 8, 9, 10, 11, 12, 13, 14, 15, 16, 17, 18] rfl rfl q5_110 0 rfl cf_X11.1 ⟨Nat.le_of_ble_eq_true rfl, Nat.le_of_ble_eq_true rfl⟩ ⟨Nat.zero_le _, Nat.zero_le _⟩ hl.1 rfl rfl (Nat.le_of_ble_eq_true rfl) dX11_done_9 (fun H locs hw => ?_)
    refine lv_if_eq (tgt := 36) hx hb dX11_done_12 (by decide) (fun hc14 => ?_) (fun hc14 => ?_)
    · have hf := it_p hf hc14
      refine lv_bipush (v := (-2 : Int32)) hx hb dX11_done_36 rfl ?_
      obtain ⟨rfl, rfl⟩ := so2 hf
      exact r_iret C hw rfl dX11_done_38
    · have hf := it_n hf hc14
      refine lv_aload_n hx hb dX11_done_15 rfl (lv_at hl 0 rfl) ?_
      refine lv_iload_n hx hb dX11_done_16 rfl (lv_at hl 3 rfl) ?_
      obtain ⟨r5, hc6, hf⟩ := bd1_e hf
      refine r_callVi0 C hw (c_X11_isHour (zm := zm) hc6) md_X11_isHour [0, 1, 2, 3, 4, 5, 6, 7, 8, 9, 10, 11, 12, 13, 14, 15, 16, 17, 18] rfl rfl q5_114 0 rfl cf_X11.1 ⟨Nat.le_of_ble_eq_true rfl, Nat.le_of_ble_eq_true rfl⟩ ⟨Nat.zero_le _, Nat.zero_le _⟩ hl.1 rfl rfl (Nat.le_of_ble_eq_true rfl) dX11_done_17 (fun H locs hw => ?_)
      refine lv_if_eq (tgt := 36) hx hb dX11_done_20 (by decide) (fun hc13 => ?_) (fun hc13 => ?_)
      · have hf := it_p hf hc13
        refine lv_bipush (v := (-2 : Int32)) hx hb dX11_done_36 rfl ?_
        obtain ⟨rfl, rfl⟩ := so2 hf
        exact r_iret C hw rfl dX11_done_38
      · have hf := it_n hf hc13
        refine lv_iload hx hb dX11_done_23 (lv_at hl 4 rfl) ?_
        refine lv_i2l hx hb dX11_done_25 rfl ?_
        refine lv_lconst (v := (0 : Int64)) hx hb dX11_done_26 rfl ?_
        refine lv_ldc2 (v := (5 : Int64)) hx hb hown (hts _ q5_101) dX11_done_27 ?_
        obtain ⟨r7, hc8, hf⟩ := bd1_e hf
        refine r_callSi0 C hw (c_X11_in hc8) md_X11_in [] rfl rfl q5_32 ⟨Nat.le_of_ble_eq_true rfl, Nat.le_of_ble_eq_true rfl⟩ ⟨Nat.zero_le _, Nat.zero_le _⟩ hl.1 rfl rfl (Nat.le_of_ble_eq_true rfl) dX11_done_30 (fun H locs hw => ?_)
        refine lv_if_ne (tgt := 39) hx hb dX11_done_33 (by decide) (fun hc12 => ?_) (fun hc12 => ?_)
        · have hf := it_n hf hc12
          refine lv_aload_n hx hb dX11_done_39 rfl (lv_at hl 0 rfl) ?_
          refine r_get C hw 0 rfl cf_X11 8 (by decide) q4_181 (v := .ref (zm 5)) rfl dX11_done_40 ?_
          refine lv_iconst (v := (4 : Int32)) hx hb dX11_done_43 rfl ?_
          refine lv_iload hx hb dX11_done_44 (lv_at hl 4 rfl) ?_
          refine lv_imul hx hb dX11_done_46 ?_
          refine lv_iconst (v := (1 : Int32)) hx hb dX11_done_47 rfl ?_
          refine lv_iadd hx hb dX11_done_48 ?_
          refine lv_iload_n hx hb dX11_done_49 rfl (lv_at hl 1 rfl) ?_
          refine lv_iadd hx hb dX11_done_50 ?_
          obtain ⟨hi9, hf⟩ := it_g hf
          refine r_iald C hw 5 (f := (Tm 5)) rfl hi9 dX11_done_51 ?_
          refine lv_iconst (v := (-1 : Int32)) hx hb dX11_done_52 rfl ?_
          refine lv_icmp_ne (tgt := 59) hx hb dX11_done_53 (by decide) (fun hc11 => ?_) (fun hc11 => ?_)
          · have hf := it_n hf hc11
            refine lv_aload_n hx hb dX11_done_59 rfl (lv_at hl 0 rfl) ?_
            refine r_get C hw 0 rfl cf_X11 0 (by decide) q4_173 (v := .ref (zm 1)) rfl dX11_done_60 ?_
            refine lv_bipush (v := (39 : Int32)) hx hb dX11_done_63 rfl ?_
            refine lv_bipush (v := (24 : Int32)) hx hb dX11_done_65 rfl ?_
            refine lv_iload_n hx hb dX11_done_67 rfl (lv_at hl 1 rfl) ?_
            refine lv_imul hx hb dX11_done_68 ?_
            refine lv_iadd hx hb dX11_done_69 ?_
            refine lv_iconst (v := (4 : Int32)) hx hb dX11_done_70 rfl ?_
            refine lv_iload_n hx hb dX11_done_71 rfl (lv_at hl 2 rfl) ?_
            refine lv_imul hx hb dX11_done_72 ?_
            refine lv_iadd hx hb dX11_done_73 ?_
            refine lv_iload_n hx hb dX11_done_74 rfl (lv_at hl 3 rfl) ?_
            refine lv_iadd hx hb dX11_done_75 ?_
            refine lv_iload hx hb dX11_done_76 (lv_at hl 4 rfl) ?_
            obtain ⟨hi10, hf⟩ := it_g hf
            refine r_iast C hw 1 (f := (Tm 1)) rfl hi10 (ws' := (gcM g zm (u2 Tm 1 ((((39 : Int32) + ((24 : Int32) * x1)) + ((4 : Int32) * x2)) + x3).toNatClampNeg x4))) gcM_a1 dX11_done_78 (fun H locs hw => ?_)
            refine lv_iconst (v := (1 : Int32)) hx hb dX11_done_79 rfl ?_
            obtain ⟨rfl, rfl⟩ := so2 hf
            exact r_iret C hw rfl dX11_done_80
          · have hf := it_p hf hc11
            refine lv_bipush (v := (-4 : Int32)) hx hb dX11_done_56 rfl ?_
            obtain ⟨rfl, rfl⟩ := so2 hf
            exact r_iret C hw rfl dX11_done_58
        · have hf := it_p hf hc12
          refine lv_bipush (v := (-2 : Int32)) hx hb dX11_done_36 rfl ?_
          obtain ⟨rfl, rfl⟩ := so2 hf
          exact r_iret C hw rfl dX11_done_38
set_option maxRecDepth 100000 in
set_option maxHeartbeats 4000000 in
theorem c_X11_ill {l : Launch} {g : evG} {zm : Nat → Nat} {r : Int32} {om : Gp}  {Tm : Gp} {x1 : Int32} {x2 : Int32} {x3 : Int32} (hf : fX11_ill Tm x1 x2 x3 = some (r, om)) : CTi l g yX11_ill (Cond.code yX11_ill cX11_ill 5 (some .int)) 2 46 [.ref (zm 0), .int x1, .int x2, .int x3] (gcM g zm Tm) (gcM g zm om) r := by
  refine ct_i rfl (Nat.le_of_ble_eq_true rfl) ?_
  intro p e s m args below meth c A ls C hw hl
  have C : ctx g p s m args meth c RX11 cX11_ill 5 (some .int) A := C
  have hl : lv_has ls 5 [(0, .ref (zm 0)), (1, .int x1), (2, .int x2), (3, .int x3)] := hl
  obtain ⟨hx, hb, hml, hown, hts, -⟩ := id C
  unfold fX11_ill at hf
  refine lv_iload_n hx hb dX11_ill_0 rfl (lv_at hl 1 rfl) ?_
  obtain ⟨r1, hc2, hf⟩ := bd1_e hf
  refine r_callSi0 C hw (c_X11_isValley hc2) md_X11_isValley [] rfl rfl q5_107 ⟨Nat.le_of_ble_eq_true rfl, Nat.le_of_ble_eq_true rfl⟩ ⟨Nat.zero_le _, Nat.zero_le _⟩ hl.1 rfl rfl (Nat.le_of_ble_eq_true rfl) dX11_ill_1 (fun H locs hw => ?_)
  refine lv_if_eq (tgt := 15) hx hb dX11_ill_4 (by decide) (fun hc10 => ?_) (fun hc10 => ?_)
  · have hf := it_p hf hc10
    refine lv_bipush (v := (-2 : Int32)) hx hb dX11_ill_15 rfl ?_
    obtain ⟨rfl, rfl⟩ := so2 hf
    exact r_iret C hw rfl dX11_ill_17
  · have hf := it_n hf hc10
    refine lv_aload_n hx hb dX11_ill_7 rfl (lv_at hl 0 rfl) ?_
    refine lv_iload_n hx hb dX11_ill_8 rfl (lv_at hl 2 rfl) ?_
    obtain ⟨r3, hc4, hf⟩ := bd1_e hf
    refine r_callVi0 C hw (c_X11_isPair (zm := zm) hc4) md_X11_isPair [0, 1, 2, 3, 4, 5, 6, 7, 8, 9, 10, 11, 12, 13, 14, 15, 16, 17, 18] rfl rfl q5_110 0 rfl cf_X11.1 ⟨Nat.le_of_ble_eq_true rfl, Nat.le_of_ble_eq_true rfl⟩ ⟨Nat.zero_le _, Nat.zero_le _⟩ hl.1 rfl rfl (Nat.le_of_ble_eq_true rfl) dX11_ill_9 (fun H locs hw => ?_)
    refine lv_if_ne (tgt := 18) hx hb dX11_ill_12 (by decide) (fun hc9 => ?_) (fun hc9 => ?_)
    · have hf := it_n hf hc9
      refine lv_aload_n hx hb dX11_ill_18 rfl (lv_at hl 0 rfl) ?_
      refine r_get C hw 0 rfl cf_X11 0 (by decide) q4_173 (v := .ref (zm 1)) rfl dX11_ill_19 ?_
      refine lv_bipush (v := (27 : Int32)) hx hb dX11_ill_22 rfl ?_
      refine lv_bipush (v := (6 : Int32)) hx hb dX11_ill_24 rfl ?_
      refine lv_iload_n hx hb dX11_ill_26 rfl (lv_at hl 1 rfl) ?_
      refine lv_imul hx hb dX11_ill_27 ?_
      refine lv_iadd hx hb dX11_ill_28 ?_
      refine lv_iload_n hx hb dX11_ill_29 rfl (lv_at hl 2 rfl) ?_
      refine lv_iadd hx hb dX11_ill_30 ?_
      obtain ⟨hi5, hf⟩ := it_g hf
      refine r_iald C hw 1 (f := (Tm 1)) rfl hi5 dX11_ill_31 ?_
      refine lv_istore (lv' := [(4, .int (Tm 1 (((27 : Int32) + ((6 : Int32) * x1)) + x2).toNatClampNeg)), (0, .ref (zm 0)), (1, .int x1), (2, .int x2), (3, .int x3)]) hx hb dX11_ill_32 hl (by decide) rfl (fun ls hl => ?_)
      refine lv_aload_n hx hb dX11_ill_34 rfl (lv_at hl 1 rfl) ?_
      refine r_get C hw 0 rfl cf_X11 0 (by decide) q4_173 (v := .ref (zm 1)) rfl dX11_ill_35 ?_
      refine lv_bipush (v := (27 : Int32)) hx hb dX11_ill_38 rfl ?_
      refine lv_bipush (v := (6 : Int32)) hx hb dX11_ill_40 rfl ?_
      refine lv_iload_n hx hb dX11_ill_42 rfl (lv_at hl 2 rfl) ?_
      refine lv_imul hx hb dX11_ill_43 ?_
      refine lv_iadd hx hb dX11_ill_44 ?_
      refine lv_iload_n hx hb dX11_ill_45 rfl (lv_at hl 3 rfl) ?_
      refine lv_iadd hx hb dX11_ill_46 ?_
      refine lv_iload_n hx hb dX11_ill_47 rfl (lv_at hl 4 rfl) ?_
      refine lv_if_eq (tgt := 55) hx hb dX11_ill_48 (by decide) (fun hc8 => ?_) (fun hc8 => ?_)
      · have hf := it_p hf hc8
        refine lv_iconst (v := (0 : Int32)) hx hb dX11_ill_55 rfl ?_
        obtain ⟨hi6, hf⟩ := it_g hf
        refine r_iast C hw 1 (f := (Tm 1)) rfl hi6 (ws' := (gcM g zm (u2 Tm 1 (((27 : Int32) + ((6 : Int32) * x1)) + x2).toNatClampNeg (0 : Int32)))) gcM_a1 dX11_ill_56 (fun H locs hw => ?_)
        refine lv_iload hx hb dX11_ill_57 (lv_at hl 0 rfl) ?_
        obtain ⟨rfl, rfl⟩ := so2 hf
        exact r_iret C hw rfl dX11_ill_59
      · have hf := it_n hf hc8
        refine lv_iconst (v := (1 : Int32)) hx hb dX11_ill_51 rfl ?_
        refine lv_goto (tgt := 56) hx hb dX11_ill_52 (by decide) ?_
        obtain ⟨hi7, hf⟩ := it_g hf
        refine r_iast C hw 1 (f := (Tm 1)) rfl hi7 (ws' := (gcM g zm (u2 Tm 1 (((27 : Int32) + ((6 : Int32) * x1)) + x2).toNatClampNeg (1 : Int32)))) gcM_a1 dX11_ill_56 (fun H locs hw => ?_)
        refine lv_iload hx hb dX11_ill_57 (lv_at hl 0 rfl) ?_
        obtain ⟨rfl, rfl⟩ := so2 hf
        exact r_iret C hw rfl dX11_ill_59
    · have hf := it_p hf hc9
      refine lv_bipush (v := (-2 : Int32)) hx hb dX11_ill_15 rfl ?_
      obtain ⟨rfl, rfl⟩ := so2 hf
      exact r_iret C hw rfl dX11_ill_17
set_option maxRecDepth 100000 in
set_option maxHeartbeats 4000000 in
theorem c_X11_meansOf {l : Launch} {g : evG} {zm : Nat → Nat} {r : Int32}  {Tm : Gp} {x1 : Int32} {x2 : Int32} {x3 : Int32} (hf : fX11_meansOf Tm x1 x2 x3 = some (r)) : CTi l g yX11_meansOf (Cond.code yX11_meansOf cX11_meansOf 4 (some .int)) 1 23 [.ref (zm 0), .int x1, .int x2, .int x3] (gcM g zm Tm) (gcM g zm Tm) r := by
  refine ct_i rfl (Nat.le_of_ble_eq_true rfl) ?_
  intro p e s m args below meth c A ls C hw hl
  have C : ctx g p s m args meth c RX11 cX11_meansOf 4 (some .int) A := C
  have hl : lv_has ls 4 [(0, .ref (zm 0)), (1, .int x1), (2, .int x2), (3, .int x3)] := hl
  obtain ⟨hx, hb, hml, hown, hts, -⟩ := id C
  unfold fX11_meansOf at hf
  refine lv_aload_n hx hb dX11_meansOf_0 rfl (lv_at hl 0 rfl) ?_
  refine r_get C hw 0 rfl cf_X11 10 (by decide) q4_183 (v := .ref (zm 7)) rfl dX11_meansOf_1 ?_
  refine lv_aload_n hx hb dX11_meansOf_4 rfl (lv_at hl 0 rfl) ?_
  refine r_get C hw 0 rfl cf_X11 0 (by decide) q4_173 (v := .ref (zm 1)) rfl dX11_meansOf_5 ?_
  refine lv_iconst (v := (0 : Int32)) hx hb dX11_meansOf_8 rfl ?_
  refine r_iald C hw 1 (f := (Tm 1)) rfl (by decide) dX11_meansOf_9 ?_
  refine lv_iconst (v := (2 : Int32)) hx hb dX11_meansOf_10 rfl ?_
  refine lv_irm hx hb dX11_meansOf_11 (by decide) ?_
  refine lv_iload_n hx hb dX11_meansOf_12 rfl (lv_at hl 1 rfl) ?_
  refine lv_iload_n hx hb dX11_meansOf_13 rfl (lv_at hl 2 rfl) ?_
  refine lv_iload_n hx hb dX11_meansOf_14 rfl (lv_at hl 3 rfl) ?_
  obtain ⟨r1, hc2, hf⟩ := bd1_e hf
  refine r_callSi0 C hw (c_X11_meantAt hc2) md_X11_meantAt [] rfl rfl q5_94 ⟨Nat.le_of_ble_eq_true rfl, Nat.le_of_ble_eq_true rfl⟩ ⟨Nat.zero_le _, Nat.zero_le _⟩ hl.1 rfl rfl (Nat.le_of_ble_eq_true rfl) dX11_meansOf_15 (fun H locs hw => ?_)
  obtain ⟨hi3, hf⟩ := it_g hf
  refine r_iald C hw 7 (f := (Tm 7)) rfl hi3 dX11_meansOf_18 ?_
  obtain rfl := so1 hf
  exact r_iret C hw rfl dX11_meansOf_19
set_option maxRecDepth 100000 in
set_option maxHeartbeats 4000000 in
theorem kX11_may_63 {l : Launch} {g : evG} {p : Program} {e : Env} {s : State} {m : MethodId} {args : Array Value} {below : List Frame} {meth : Method} {c : Code} {A : Nat → Prop} {zm : Nat → Nat} {r : Int32} (C : ctx g p s m args meth c RX11 cX11_may 7 (some .boolean) A) {Tm : Gp} {x1 : Int32} {x4 : Int32} {x5 : Int32} {y0 : Int32} {H : Heap} {locs : List Loc} {ls : Array Slot} (hf : fX11_may_63 Tm x1 x4 x5 y0 = some (r)) (hw : wl g A s.heap (gcM g zm Tm) H locs) (hl : lv_has ls 7 [(0, .ref (zm 0)), (1, .int x1), (4, .int x4), (5, .int x5)]) : W p l e (rmK 0 0) s m args below meth c H locs 0 0 (MQ below (Qi g A (gcM g zm Tm) r) args s 0 0 A) (F0 m 63 ls [.int y0]) := by
  obtain ⟨hx, hb, hml, hown, hts, -⟩ := id C
  unfold fX11_may_63 at hf
  refine lv_istore (lv' := [(6, .int y0), (0, .ref (zm 0)), (1, .int x1), (4, .int x4), (5, .int x5)]) hx hb dX11_may_63 hl (by decide) rfl (fun ls hl => ?_)
  refine lv_iload hx hb dX11_may_65 (lv_at hl 3 rfl) ?_
  refine lv_iconst (v := (5 : Int32)) hx hb dX11_may_67 rfl ?_
  refine lv_icmp_eq (tgt := 98) hx hb dX11_may_68 (by decide) (fun hc5 => ?_) (fun hc5 => ?_)
  · have hf := it_p hf hc5
    refine lv_iconst (v := (1 : Int32)) hx hb dX11_may_98 rfl ?_
    refine lv_goto (tgt := 103) hx hb dX11_may_99 (by decide) ?_
    obtain rfl := so1 hf
    exact r_zret C hw rfl rfl dX11_may_103
  · have hf := it_n hf hc5
    refine lv_aload_n hx hb dX11_may_71 rfl (lv_at hl 1 rfl) ?_
    refine r_get C hw 0 rfl cf_X11 8 (by decide) q4_181 (v := .ref (zm 5)) rfl dX11_may_72 ?_
    refine lv_iconst (v := (4 : Int32)) hx hb dX11_may_75 rfl ?_
    refine lv_iload hx hb dX11_may_76 (lv_at hl 3 rfl) ?_
    refine lv_imul hx hb dX11_may_78 ?_
    refine lv_iconst (v := (1 : Int32)) hx hb dX11_may_79 rfl ?_
    refine lv_iadd hx hb dX11_may_80 ?_
    refine lv_iload_n hx hb dX11_may_81 rfl (lv_at hl 2 rfl) ?_
    refine lv_iadd hx hb dX11_may_82 ?_
    obtain ⟨hi1, hf⟩ := it_g hf
    refine r_iald C hw 5 (f := (Tm 5)) rfl hi1 dX11_may_83 ?_
    refine lv_iconst (v := (-1 : Int32)) hx hb dX11_may_84 rfl ?_
    refine lv_icmp_eq (tgt := 102) hx hb dX11_may_85 (by decide) (fun hc4 => ?_) (fun hc4 => ?_)
    · have hf := it_p hf hc4
      refine lv_iconst (v := (0 : Int32)) hx hb dX11_may_102 rfl ?_
      obtain rfl := so1 hf
      exact r_zret C hw rfl rfl dX11_may_103
    · have hf := it_n hf hc4
      refine lv_iload hx hb dX11_may_88 (lv_at hl 4 rfl) ?_
      refine lv_if_ne (tgt := 102) hx hb dX11_may_90 (by decide) (fun hc3 => ?_) (fun hc3 => ?_)
      · have hf := it_n hf hc3
        refine lv_iconst (v := (0 : Int32)) hx hb dX11_may_102 rfl ?_
        obtain rfl := so1 hf
        exact r_zret C hw rfl rfl dX11_may_103
      · have hf := it_p hf hc3
        refine lv_iload hx hb dX11_may_93 (lv_at hl 0 rfl) ?_
        refine lv_if_ne (tgt := 102) hx hb dX11_may_95 (by decide) (fun hc2 => ?_) (fun hc2 => ?_)
        · have hf := it_n hf hc2
          refine lv_iconst (v := (0 : Int32)) hx hb dX11_may_102 rfl ?_
          obtain rfl := so1 hf
          exact r_zret C hw rfl rfl dX11_may_103
        · have hf := it_p hf hc2
          refine lv_iconst (v := (1 : Int32)) hx hb dX11_may_98 rfl ?_
          refine lv_goto (tgt := 103) hx hb dX11_may_99 (by decide) ?_
          obtain rfl := so1 hf
          exact r_zret C hw rfl rfl dX11_may_103
set_option maxRecDepth 100000 in
set_option maxHeartbeats 4000000 in
theorem kX11_may_62 {l : Launch} {g : evG} {p : Program} {e : Env} {s : State} {m : MethodId} {args : Array Value} {below : List Frame} {meth : Method} {c : Code} {A : Nat → Prop} {zm : Nat → Nat} {r : Int32} (C : ctx g p s m args meth c RX11 cX11_may 7 (some .boolean) A) {Tm : Gp} {x1 : Int32} {x4 : Int32} {x5 : Int32} {H : Heap} {locs : List Loc} {ls : Array Slot} (hf : fX11_may_62 Tm x1 x4 x5 = some (r)) (hw : wl g A s.heap (gcM g zm Tm) H locs) (hl : lv_has ls 7 [(0, .ref (zm 0)), (1, .int x1), (4, .int x4), (5, .int x5)]) : W p l e (rmK 0 0) s m args below meth c H locs 0 0 (MQ below (Qi g A (gcM g zm Tm) r) args s 0 0 A) (F0 m 62 ls []) := by
  obtain ⟨hx, hb, hml, hown, hts, -⟩ := id C
  unfold fX11_may_62 at hf
  refine lv_iconst (v := (0 : Int32)) hx hb dX11_may_62 rfl ?_
  exact kX11_may_63 (zm := zm) (r := r) C hf hw (lv_sub hl [0, 1, 2, 3] rfl)
set_option maxRecDepth 100000 in
set_option maxHeartbeats 4000000 in
theorem kX11_may_28 {l : Launch} {g : evG} {p : Program} {e : Env} {s : State} {m : MethodId} {args : Array Value} {below : List Frame} {meth : Method} {c : Code} {A : Nat → Prop} {zm : Nat → Nat} {r : Int32} (C : ctx g p s m args meth c RX11 cX11_may 7 (some .boolean) A) {Tm : Gp} {x1 : Int32} {x2 : Int32} {x3 : Int32} {x4 : Int32} {y0 : Int32} {H : Heap} {locs : List Loc} {ls : Array Slot} (hf : fX11_may_28 Tm x1 x2 x3 x4 y0 = some (r)) (hw : wl g A s.heap (gcM g zm Tm) H locs) (hl : lv_has ls 7 [(0, .ref (zm 0)), (1, .int x1), (2, .int x2), (3, .int x3), (4, .int x4)]) : W p l e (rmK 0 0) s m args below meth c H locs 0 0 (MQ below (Qi g A (gcM g zm Tm) r) args s 0 0 A) (F0 m 28 ls [.int y0]) := by
  obtain ⟨hx, hb, hml, hown, hts, -⟩ := id C
  unfold fX11_may_28 at hf
  refine lv_istore (lv' := [(5, .int y0), (0, .ref (zm 0)), (1, .int x1), (2, .int x2), (3, .int x3), (4, .int x4)]) hx hb dX11_may_28 hl (by decide) rfl (fun ls hl => ?_)
  refine lv_aload_n hx hb dX11_may_30 rfl (lv_at hl 1 rfl) ?_
  refine r_get C hw 0 rfl cf_X11 9 (by decide) q4_182 (v := .ref (zm 6)) rfl dX11_may_31 ?_
  refine lv_iload_n hx hb dX11_may_34 rfl (lv_at hl 3 rfl) ?_
  obtain ⟨hi1, hf⟩ := it_g hf
  refine r_iald C hw 6 (f := (Tm 6)) rfl hi1 dX11_may_35 ?_
  refine lv_iconst (v := (2 : Int32)) hx hb dX11_may_36 rfl ?_
  refine lv_icmp_ne (tgt := 62) hx hb dX11_may_37 (by decide) (fun hc4 => ?_) (fun hc4 => ?_)
  · have hf := it_n hf hc4
    exact kX11_may_62 (zm := zm) (r := r) C hf hw (lv_sub hl [1, 2, 5, 0] rfl)
  · have hf := it_p hf hc4
    refine lv_aload_n hx hb dX11_may_40 rfl (lv_at hl 1 rfl) ?_
    refine r_get C hw 0 rfl cf_X11 7 (by decide) q4_180 (v := .int (Tm 0 7)) rfl dX11_may_41 ?_
    refine lv_iconst (v := (1 : Int32)) hx hb dX11_may_44 rfl ?_
    refine lv_icmp_le (tgt := 62) hx hb dX11_may_45 (by decide) (fun hc3 => ?_) (fun hc3 => ?_)
    · have hf := it_p hf hc3
      exact kX11_may_62 (zm := zm) (r := r) C hf hw (lv_sub hl [1, 2, 5, 0] rfl)
    · have hf := it_n hf hc3
      refine lv_iload_n hx hb dX11_may_48 rfl (lv_at hl 4 rfl) ?_
      refine lv_aload_n hx hb dX11_may_49 rfl (lv_at hl 1 rfl) ?_
      refine r_get C hw 0 rfl cf_X11 7 (by decide) q4_180 (v := .int (Tm 0 7)) rfl dX11_may_50 ?_
      refine lv_iconst (v := (1 : Int32)) hx hb dX11_may_53 rfl ?_
      refine lv_isub hx hb dX11_may_54 ?_
      refine lv_icmp_ne (tgt := 62) hx hb dX11_may_55 (by decide) (fun hc2 => ?_) (fun hc2 => ?_)
      · have hf := it_n hf hc2
        exact kX11_may_62 (zm := zm) (r := r) C hf hw (lv_sub hl [1, 2, 5, 0] rfl)
      · have hf := it_p hf hc2
        refine lv_iconst (v := (1 : Int32)) hx hb dX11_may_58 rfl ?_
        refine lv_goto (tgt := 63) hx hb dX11_may_59 (by decide) ?_
        exact kX11_may_63 (zm := zm) (r := r) C hf hw (lv_sub hl [1, 2, 5, 0] rfl)
set_option maxRecDepth 100000 in
set_option maxHeartbeats 4000000 in
theorem kX11_may_27 {l : Launch} {g : evG} {p : Program} {e : Env} {s : State} {m : MethodId} {args : Array Value} {below : List Frame} {meth : Method} {c : Code} {A : Nat → Prop} {zm : Nat → Nat} {r : Int32} (C : ctx g p s m args meth c RX11 cX11_may 7 (some .boolean) A) {Tm : Gp} {x1 : Int32} {x2 : Int32} {x3 : Int32} {x4 : Int32} {H : Heap} {locs : List Loc} {ls : Array Slot} (hf : fX11_may_27 Tm x1 x2 x3 x4 = some (r)) (hw : wl g A s.heap (gcM g zm Tm) H locs) (hl : lv_has ls 7 [(0, .ref (zm 0)), (1, .int x1), (2, .int x2), (3, .int x3), (4, .int x4)]) : W p l e (rmK 0 0) s m args below meth c H locs 0 0 (MQ below (Qi g A (gcM g zm Tm) r) args s 0 0 A) (F0 m 27 ls []) := by
  obtain ⟨hx, hb, hml, hown, hts, -⟩ := id C
  unfold fX11_may_27 at hf
  refine lv_iconst (v := (0 : Int32)) hx hb dX11_may_27 rfl ?_
  exact kX11_may_28 (zm := zm) (r := r) C hf hw (lv_sub hl [0, 1, 2, 3, 4] rfl)
set_option maxRecDepth 100000 in
set_option maxHeartbeats 4000000 in
theorem c_X11_may {l : Launch} {g : evG} {zm : Nat → Nat} {r : Int32}  {Tm : Gp} {x1 : Int32} {x2 : Int32} {x3 : Int32} {x4 : Int32} (hf : fX11_may Tm x1 x2 x3 x4 = some (r)) : CTi l g yX11_may (Cond.code yX11_may cX11_may 7 (some .boolean)) 0 0 [.ref (zm 0), .int x1, .int x2, .int x3, .int x4] (gcM g zm Tm) (gcM g zm Tm) r := by
  refine ct_i rfl (Nat.le_of_ble_eq_true rfl) ?_
  intro p e s m args below meth c A ls C hw hl
  have C : ctx g p s m args meth c RX11 cX11_may 7 (some .boolean) A := C
  have hl : lv_has ls 7 [(0, .ref (zm 0)), (1, .int x1), (2, .int x2), (3, .int x3), (4, .int x4)] := hl
  obtain ⟨hx, hb, hml, hown, hts, -⟩ := id C
  unfold fX11_may at hf
  refine lv_aload_n hx hb dX11_may_0 rfl (lv_at hl 0 rfl) ?_
  refine r_get C hw 0 rfl cf_X11 9 (by decide) q4_182 (v := .ref (zm 6)) rfl dX11_may_1 ?_
  refine lv_iload_n hx hb dX11_may_4 rfl (lv_at hl 2 rfl) ?_
  obtain ⟨hi1, hf⟩ := it_g hf
  refine r_iald C hw 6 (f := (Tm 6)) rfl hi1 dX11_may_5 ?_
  refine lv_iconst (v := (1 : Int32)) hx hb dX11_may_6 rfl ?_
  refine lv_icmp_ne (tgt := 27) hx hb dX11_may_7 (by decide) (fun hc4 => ?_) (fun hc4 => ?_)
  · have hf := it_n hf hc4
    exact kX11_may_27 (zm := zm) (r := r) C hf hw (lv_sub hl [0, 1, 2, 3, 4] rfl)
  · have hf := it_p hf hc4
    refine lv_aload_n hx hb dX11_may_10 rfl (lv_at hl 0 rfl) ?_
    refine r_get C hw 0 rfl cf_X11 8 (by decide) q4_181 (v := .ref (zm 5)) rfl dX11_may_11 ?_
    refine lv_iconst (v := (4 : Int32)) hx hb dX11_may_14 rfl ?_
    refine lv_iload hx hb dX11_may_15 (lv_at hl 4 rfl) ?_
    refine lv_imul hx hb dX11_may_17 ?_
    obtain ⟨hi2, hf⟩ := it_g hf
    refine r_iald C hw 5 (f := (Tm 5)) rfl hi2 dX11_may_18 ?_
    refine lv_iconst (v := (3 : Int32)) hx hb dX11_may_19 rfl ?_
    refine lv_icmp_ne (tgt := 27) hx hb dX11_may_20 (by decide) (fun hc3 => ?_) (fun hc3 => ?_)
    · have hf := it_n hf hc3
      exact kX11_may_27 (zm := zm) (r := r) C hf hw (lv_sub hl [0, 1, 2, 3, 4] rfl)
    · have hf := it_p hf hc3
      refine lv_iconst (v := (1 : Int32)) hx hb dX11_may_23 rfl ?_
      refine lv_goto (tgt := 28) hx hb dX11_may_24 (by decide) ?_
      exact kX11_may_28 (zm := zm) (r := r) C hf hw (lv_sub hl [0, 1, 2, 3, 4] rfl)
set_option maxRecDepth 100000 in
set_option maxHeartbeats 4000000 in
theorem kX11_does_38 {l : Launch} {g : evG} {p : Program} {e : Env} {s : State} {m : MethodId} {args : Array Value} {below : List Frame} {meth : Method} {c : Code} {A : Nat → Prop} {zm : Nat → Nat} {r : Int32} (C : ctx g p s m args meth c RX11 cX11_does 6 (some .int) A) {Tm : Gp} {x1 : Int32} {x2 : Int32} {x3 : Int32} {y0 : Int32} {H : Heap} {locs : List Loc} {ls : Array Slot} (hf : fX11_does_38 Tm x1 x2 x3 y0 = some (r)) (hw : wl g A s.heap (gcM g zm Tm) H locs) (hl : lv_has ls 6 [(0, .ref (zm 0)), (1, .int x1), (2, .int x2), (3, .int x3)]) : W p l e (rmK 2 46) s m args below meth c H locs 0 0 (MQ below (Qi g A (gcM g zm Tm) r) args s 0 0 A) (F0 m 38 ls [.int y0]) := by
  obtain ⟨hx, hb, hml, hown, hts, -⟩ := id C
  unfold fX11_does_38 at hf
  refine lv_istore (lv' := [(5, .int y0), (0, .ref (zm 0)), (1, .int x1), (2, .int x2), (3, .int x3)]) hx hb dX11_does_38 hl (by decide) rfl (fun ls hl => ?_)
  refine lv_aload_n hx hb dX11_does_40 rfl (lv_at hl 1 rfl) ?_
  refine r_get C hw 0 rfl cf_X11 0 (by decide) q4_173 (v := .ref (zm 1)) rfl dX11_does_41 ?_
  refine lv_bipush (v := (27 : Int32)) hx hb dX11_does_44 rfl ?_
  refine lv_bipush (v := (6 : Int32)) hx hb dX11_does_46 rfl ?_
  refine lv_iload_n hx hb dX11_does_48 rfl (lv_at hl 2 rfl) ?_
  refine lv_imul hx hb dX11_does_49 ?_
  refine lv_iadd hx hb dX11_does_50 ?_
  refine lv_iload_n hx hb dX11_does_51 rfl (lv_at hl 3 rfl) ?_
  refine lv_iadd hx hb dX11_does_52 ?_
  obtain ⟨hi1, hf⟩ := it_g hf
  refine r_iald C hw 1 (f := (Tm 1)) rfl hi1 dX11_does_53 ?_
  refine lv_if_ne (tgt := 74) hx hb dX11_does_54 (by decide) (fun hc5 => ?_) (fun hc5 => ?_)
  · have hf := it_n hf hc5
    refine lv_iconst (v := (5 : Int32)) hx hb dX11_does_74 rfl ?_
    obtain rfl := so1 hf
    exact r_iret C hw rfl dX11_does_75
  · have hf := it_p hf hc5
    refine lv_aload_n hx hb dX11_does_57 rfl (lv_at hl 1 rfl) ?_
    refine lv_iload_n hx hb dX11_does_58 rfl (lv_at hl 2 rfl) ?_
    refine lv_iload_n hx hb dX11_does_59 rfl (lv_at hl 3 rfl) ?_
    refine lv_iload_n hx hb dX11_does_60 rfl (lv_at hl 4 rfl) ?_
    refine lv_iload hx hb dX11_does_61 (lv_at hl 0 rfl) ?_
    obtain ⟨r2, hc3, hf⟩ := bd1_e hf
    refine r_callVi0 C hw (c_X11_may (zm := zm) hc3) md_X11_may [0, 1, 2, 3, 4, 5, 6, 7, 8, 9, 10, 11, 12, 13, 14, 15, 16, 17, 18] rfl rfl q5_147 0 rfl cf_X11.1 ⟨Nat.le_of_ble_eq_true rfl, Nat.le_of_ble_eq_true rfl⟩ ⟨Nat.zero_le _, Nat.zero_le _⟩ hl.1 rfl rfl (Nat.le_of_ble_eq_true rfl) dX11_does_63 (fun H locs hw => ?_)
    refine lv_if_eq (tgt := 74) hx hb dX11_does_66 (by decide) (fun hc4 => ?_) (fun hc4 => ?_)
    · have hf := it_p hf hc4
      refine lv_iconst (v := (5 : Int32)) hx hb dX11_does_74 rfl ?_
      obtain rfl := so1 hf
      exact r_iret C hw rfl dX11_does_75
    · have hf := it_n hf hc4
      refine lv_iload hx hb dX11_does_69 (lv_at hl 0 rfl) ?_
      refine lv_goto (tgt := 75) hx hb dX11_does_71 (by decide) ?_
      obtain rfl := so1 hf
      exact r_iret C hw rfl dX11_does_75
set_option maxRecDepth 100000 in
set_option maxHeartbeats 4000000 in
theorem c_X11_does {l : Launch} {g : evG} {zm : Nat → Nat} {r : Int32}  {Tm : Gp} {x1 : Int32} {x2 : Int32} {x3 : Int32} (hf : fX11_does Tm x1 x2 x3 = some (r)) : CTi l g yX11_does (Cond.code yX11_does cX11_does 6 (some .int)) 2 46 [.ref (zm 0), .int x1, .int x2, .int x3] (gcM g zm Tm) (gcM g zm Tm) r := by
  refine ct_i rfl (Nat.le_of_ble_eq_true rfl) ?_
  intro p e s m args below meth c A ls C hw hl
  have C : ctx g p s m args meth c RX11 cX11_does 6 (some .int) A := C
  have hl : lv_has ls 6 [(0, .ref (zm 0)), (1, .int x1), (2, .int x2), (3, .int x3)] := hl
  obtain ⟨hx, hb, hml, hown, hts, -⟩ := id C
  unfold fX11_does at hf
  refine lv_aload_n hx hb dX11_does_0 rfl (lv_at hl 0 rfl) ?_
  refine r_get C hw 0 rfl cf_X11 0 (by decide) q4_173 (v := .ref (zm 1)) rfl dX11_does_1 ?_
  refine lv_bipush (v := (39 : Int32)) hx hb dX11_does_4 rfl ?_
  refine lv_bipush (v := (24 : Int32)) hx hb dX11_does_6 rfl ?_
  refine lv_iload_n hx hb dX11_does_8 rfl (lv_at hl 1 rfl) ?_
  refine lv_imul hx hb dX11_does_9 ?_
  refine lv_iadd hx hb dX11_does_10 ?_
  refine lv_iconst (v := (4 : Int32)) hx hb dX11_does_11 rfl ?_
  refine lv_iload_n hx hb dX11_does_12 rfl (lv_at hl 2 rfl) ?_
  refine lv_imul hx hb dX11_does_13 ?_
  refine lv_iadd hx hb dX11_does_14 ?_
  refine lv_iload_n hx hb dX11_does_15 rfl (lv_at hl 3 rfl) ?_
  refine lv_iadd hx hb dX11_does_16 ?_
  obtain ⟨hi1, hf⟩ := it_g hf
  refine r_iald C hw 1 (f := (Tm 1)) rfl hi1 dX11_does_17 ?_
  refine lv_istore (lv' := [(4, .int (Tm 1 ((((39 : Int32) + ((24 : Int32) * x1)) + ((4 : Int32) * x2)) + x3).toNatClampNeg)), (0, .ref (zm 0)), (1, .int x1), (2, .int x2), (3, .int x3)]) hx hb dX11_does_18 hl (by decide) rfl (fun ls hl => ?_)
  refine lv_iload hx hb dX11_does_20 (lv_at hl 0 rfl) ?_
  refine lv_iconst (v := (-1 : Int32)) hx hb dX11_does_22 rfl ?_
  refine lv_icmp_ne (tgt := 36) hx hb dX11_does_23 (by decide) (fun hc4 => ?_) (fun hc4 => ?_)
  · have hf := it_n hf hc4
    refine lv_iload hx hb dX11_does_36 (lv_at hl 0 rfl) ?_
    exact kX11_does_38 (zm := zm) (r := r) C hf hw (lv_sub hl [1, 2, 3, 4] rfl)
  · have hf := it_p hf hc4
    refine lv_aload_n hx hb dX11_does_26 rfl (lv_at hl 1 rfl) ?_
    refine lv_iload_n hx hb dX11_does_27 rfl (lv_at hl 2 rfl) ?_
    refine lv_iload_n hx hb dX11_does_28 rfl (lv_at hl 3 rfl) ?_
    refine lv_iload_n hx hb dX11_does_29 rfl (lv_at hl 4 rfl) ?_
    obtain ⟨r2, hc3, hf⟩ := bd1_e hf
    refine r_callVi0 C hw (c_X11_meansOf (zm := zm) hc3) md_X11_meansOf [0, 1, 2, 3, 4, 5, 6, 7, 8, 9, 10, 11, 12, 13, 14, 15, 16, 17, 18] rfl rfl q5_143 0 rfl cf_X11.1 ⟨Nat.le_of_ble_eq_true rfl, Nat.le_of_ble_eq_true rfl⟩ ⟨Nat.zero_le _, Nat.zero_le _⟩ hl.1 rfl rfl (Nat.le_of_ble_eq_true rfl) dX11_does_30 (fun H locs hw => ?_)
    refine lv_goto (tgt := 38) hx hb dX11_does_33 (by decide) ?_
    exact kX11_does_38 (zm := zm) (r := r) C hf hw (lv_sub hl [1, 2, 3, 4] rfl)
