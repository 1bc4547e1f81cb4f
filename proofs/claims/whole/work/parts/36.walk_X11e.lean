set_option maxRecDepth 100000 in
set_option maxHeartbeats 4000000 in
theorem kX11_as_98 {l : Launch} {g : evG} {p : Program} {e : Env} {s : State} {m : MethodId} {args : Array Value} {below : List Frame} {meth : Method} {c : Code} {A : Nat → Prop} {zm : Nat → Nat} {r : Int32} (C : ctx g p s m args meth c RX11 cX11_as 5 (some .int) A) {Tm : Gp} {x1 : Int32} {y0 : Int32} {H : Heap} {locs : List Loc} {ls : Array Slot} (hf : fX11_as_98 Tm x1 y0 = some (r)) (hw : wl g A s.heap (gcM g zm Tm) H locs) (hl : lv_has ls 5 [(0, .ref (zm 0)), (1, .int x1)]) : W p l e (rmK 2 46) s m args below meth c H locs 0 0 (MQ below (Qi g A (gcM g zm Tm) r) args s 0 0 A) (F0 m 98 ls [.int y0]) := by
  obtain ⟨hx, hb, hml, hown, hts, -⟩ := id C
  unfold fX11_as_98 at hf
  refine lv_istore (lv' := [(4, .int y0), (0, .ref (zm 0)), (1, .int x1)]) hx hb dX11_as_98 hl (by decide) rfl (fun ls hl => ?_)
  refine lv_iload hx hb dX11_as_100 (lv_at hl 0 rfl) ?_
  refine lv_if_eq (tgt := 126) hx hb dX11_as_102 (by decide) (fun hc3 => ?_) (fun hc3 => ?_)
  · have hf := it_p hf hc3
    refine lv_bipush (v := (-4 : Int32)) hx hb dX11_as_126 rfl ?_
    obtain rfl := so1 hf
    exact r_iret C hw rfl dX11_as_128
  · have hf := it_n hf hc3
    refine lv_aload_n hx hb dX11_as_105 rfl (lv_at hl 1 rfl) ?_
    refine r_get C hw 0 rfl cf_X11 0 (by decide) q4_173 (v := .ref (zm 1)) rfl dX11_as_106 ?_
    refine lv_iconst (v := (3 : Int32)) hx hb dX11_as_109 rfl ?_
    refine lv_iload_n hx hb dX11_as_110 rfl (lv_at hl 2 rfl) ?_
    refine lv_iadd hx hb dX11_as_111 ?_
    obtain ⟨hi1, hf⟩ := it_g hf
    refine r_iald C hw 1 (f := (Tm 1)) rfl hi1 dX11_as_112 ?_
    refine lv_aload_n hx hb dX11_as_113 rfl (lv_at hl 1 rfl) ?_
    refine r_get C hw 0 rfl cf_X11 0 (by decide) q4_173 (v := .ref (zm 1)) rfl dX11_as_114 ?_
    refine lv_bipush (v := (9 : Int32)) hx hb dX11_as_117 rfl ?_
    refine lv_iload_n hx hb dX11_as_119 rfl (lv_at hl 2 rfl) ?_
    refine lv_iadd hx hb dX11_as_120 ?_
    obtain ⟨hi2, hf⟩ := it_g hf
    refine r_iald C hw 1 (f := (Tm 1)) rfl hi2 dX11_as_121 ?_
    refine lv_iadd hx hb dX11_as_122 ?_
    refine lv_goto (tgt := 128) hx hb dX11_as_123 (by decide) ?_
    obtain rfl := so1 hf
    exact r_iret C hw rfl dX11_as_128
set_option maxRecDepth 100000 in
set_option maxHeartbeats 4000000 in
theorem kX11_as_93 {l : Launch} {g : evG} {p : Program} {e : Env} {s : State} {m : MethodId} {args : Array Value} {below : List Frame} {meth : Method} {c : Code} {A : Nat → Prop} {zm : Nat → Nat} {r : Int32} (C : ctx g p s m args meth c RX11 cX11_as 5 (some .int) A) {Tm : Gp} {x1 : Int32} {H : Heap} {locs : List Loc} {ls : Array Slot} (hf : fX11_as_93 Tm x1 = some (r)) (hw : wl g A s.heap (gcM g zm Tm) H locs) (hl : lv_has ls 5 [(0, .ref (zm 0)), (1, .int x1)]) : W p l e (rmK 2 46) s m args below meth c H locs 0 0 (MQ below (Qi g A (gcM g zm Tm) r) args s 0 0 A) (F0 m 93 ls []) := by
  obtain ⟨hx, hb, hml, hown, hts, -⟩ := id C
  unfold fX11_as_93 at hf
  refine lv_iconst (v := (1 : Int32)) hx hb dX11_as_93 rfl ?_
  refine lv_goto (tgt := 98) hx hb dX11_as_94 (by decide) ?_
  exact kX11_as_98 (zm := zm) (r := r) C hf hw (lv_sub hl [0, 1] rfl)
set_option maxRecDepth 100000 in
set_option maxHeartbeats 4000000 in
theorem kX11_as_97 {l : Launch} {g : evG} {p : Program} {e : Env} {s : State} {m : MethodId} {args : Array Value} {below : List Frame} {meth : Method} {c : Code} {A : Nat → Prop} {zm : Nat → Nat} {r : Int32} (C : ctx g p s m args meth c RX11 cX11_as 5 (some .int) A) {Tm : Gp} {x1 : Int32} {H : Heap} {locs : List Loc} {ls : Array Slot} (hf : fX11_as_97 Tm x1 = some (r)) (hw : wl g A s.heap (gcM g zm Tm) H locs) (hl : lv_has ls 5 [(0, .ref (zm 0)), (1, .int x1)]) : W p l e (rmK 2 46) s m args below meth c H locs 0 0 (MQ below (Qi g A (gcM g zm Tm) r) args s 0 0 A) (F0 m 97 ls []) := by
  obtain ⟨hx, hb, hml, hown, hts, -⟩ := id C
  unfold fX11_as_97 at hf
  refine lv_iconst (v := (0 : Int32)) hx hb dX11_as_97 rfl ?_
  exact kX11_as_98 (zm := zm) (r := r) C hf hw (lv_sub hl [0, 1] rfl)
set_option maxRecDepth 100000 in
set_option maxHeartbeats 4000000 in
theorem kX11_as_83 {l : Launch} {g : evG} {p : Program} {e : Env} {s : State} {m : MethodId} {args : Array Value} {below : List Frame} {meth : Method} {c : Code} {A : Nat → Prop} {zm : Nat → Nat} {r : Int32} (C : ctx g p s m args meth c RX11 cX11_as 5 (some .int) A) {Tm : Gp} {x1 : Int32} {x2 : Int32} {x3 : Int32} {H : Heap} {locs : List Loc} {ls : Array Slot} (hf : fX11_as_83 Tm x1 x2 x3 = some (r)) (hw : wl g A s.heap (gcM g zm Tm) H locs) (hl : lv_has ls 5 [(0, .ref (zm 0)), (1, .int x1), (2, .int x2), (3, .int x3)]) : W p l e (rmK 2 46) s m args below meth c H locs 0 0 (MQ below (Qi g A (gcM g zm Tm) r) args s 0 0 A) (F0 m 83 ls []) := by
  obtain ⟨hx, hb, hml, hown, hts, -⟩ := id C
  unfold fX11_as_83 at hf
  refine lv_iload_n hx hb dX11_as_83 rfl (lv_at hl 2 rfl) ?_
  refine lv_iconst (v := (5 : Int32)) hx hb dX11_as_84 rfl ?_
  refine lv_icmp_ne (tgt := 97) hx hb dX11_as_85 (by decide) (fun hc2 => ?_) (fun hc2 => ?_)
  · have hf := it_n hf hc2
    exact kX11_as_97 (zm := zm) (r := r) C hf hw (lv_sub hl [0, 1] rfl)
  · have hf := it_p hf hc2
    refine lv_iload_n hx hb dX11_as_88 rfl (lv_at hl 3 rfl) ?_
    refine lv_iconst (v := (2 : Int32)) hx hb dX11_as_89 rfl ?_
    refine lv_icmp_ne (tgt := 97) hx hb dX11_as_90 (by decide) (fun hc1 => ?_) (fun hc1 => ?_)
    · have hf := it_n hf hc1
      exact kX11_as_97 (zm := zm) (r := r) C hf hw (lv_sub hl [0, 1] rfl)
    · have hf := it_p hf hc1
      exact kX11_as_93 (zm := zm) (r := r) C hf hw (lv_sub hl [0, 1] rfl)
set_option maxRecDepth 100000 in
set_option maxHeartbeats 4000000 in
theorem kX11_as_73 {l : Launch} {g : evG} {p : Program} {e : Env} {s : State} {m : MethodId} {args : Array Value} {below : List Frame} {meth : Method} {c : Code} {A : Nat → Prop} {zm : Nat → Nat} {r : Int32} (C : ctx g p s m args meth c RX11 cX11_as 5 (some .int) A) {Tm : Gp} {x1 : Int32} {x2 : Int32} {x3 : Int32} {H : Heap} {locs : List Loc} {ls : Array Slot} (hf : fX11_as_73 Tm x1 x2 x3 = some (r)) (hw : wl g A s.heap (gcM g zm Tm) H locs) (hl : lv_has ls 5 [(0, .ref (zm 0)), (1, .int x1), (2, .int x2), (3, .int x3)]) : W p l e (rmK 2 46) s m args below meth c H locs 0 0 (MQ below (Qi g A (gcM g zm Tm) r) args s 0 0 A) (F0 m 73 ls []) := by
  obtain ⟨hx, hb, hml, hown, hts, -⟩ := id C
  unfold fX11_as_73 at hf
  refine lv_iload_n hx hb dX11_as_73 rfl (lv_at hl 2 rfl) ?_
  refine lv_iconst (v := (4 : Int32)) hx hb dX11_as_74 rfl ?_
  refine lv_icmp_ne (tgt := 83) hx hb dX11_as_75 (by decide) (fun hc2 => ?_) (fun hc2 => ?_)
  · have hf := it_n hf hc2
    exact kX11_as_83 (zm := zm) (r := r) C hf hw (lv_sub hl [0, 1, 2, 3] rfl)
  · have hf := it_p hf hc2
    refine lv_iload_n hx hb dX11_as_78 rfl (lv_at hl 3 rfl) ?_
    refine lv_iconst (v := (1 : Int32)) hx hb dX11_as_79 rfl ?_
    refine lv_icmp_eq (tgt := 93) hx hb dX11_as_80 (by decide) (fun hc1 => ?_) (fun hc1 => ?_)
    · have hf := it_p hf hc1
      exact kX11_as_93 (zm := zm) (r := r) C hf hw (lv_sub hl [0, 1] rfl)
    · have hf := it_n hf hc1
      exact kX11_as_83 (zm := zm) (r := r) C hf hw (lv_sub hl [0, 1, 2, 3] rfl)
set_option maxRecDepth 100000 in
set_option maxHeartbeats 4000000 in
theorem kX11_as_63 {l : Launch} {g : evG} {p : Program} {e : Env} {s : State} {m : MethodId} {args : Array Value} {below : List Frame} {meth : Method} {c : Code} {A : Nat → Prop} {zm : Nat → Nat} {r : Int32} (C : ctx g p s m args meth c RX11 cX11_as 5 (some .int) A) {Tm : Gp} {x1 : Int32} {x2 : Int32} {x3 : Int32} {H : Heap} {locs : List Loc} {ls : Array Slot} (hf : fX11_as_63 Tm x1 x2 x3 = some (r)) (hw : wl g A s.heap (gcM g zm Tm) H locs) (hl : lv_has ls 5 [(0, .ref (zm 0)), (1, .int x1), (2, .int x2), (3, .int x3)]) : W p l e (rmK 2 46) s m args below meth c H locs 0 0 (MQ below (Qi g A (gcM g zm Tm) r) args s 0 0 A) (F0 m 63 ls []) := by
  obtain ⟨hx, hb, hml, hown, hts, -⟩ := id C
  unfold fX11_as_63 at hf
  refine lv_iload_n hx hb dX11_as_63 rfl (lv_at hl 2 rfl) ?_
  refine lv_iconst (v := (3 : Int32)) hx hb dX11_as_64 rfl ?_
  refine lv_icmp_ne (tgt := 73) hx hb dX11_as_65 (by decide) (fun hc2 => ?_) (fun hc2 => ?_)
  · have hf := it_n hf hc2
    exact kX11_as_73 (zm := zm) (r := r) C hf hw (lv_sub hl [0, 1, 2, 3] rfl)
  · have hf := it_p hf hc2
    refine lv_iload_n hx hb dX11_as_68 rfl (lv_at hl 3 rfl) ?_
    refine lv_iconst (v := (2 : Int32)) hx hb dX11_as_69 rfl ?_
    refine lv_icmp_lt (tgt := 93) hx hb dX11_as_70 (by decide) (fun hc1 => ?_) (fun hc1 => ?_)
    · have hf := it_p hf hc1
      exact kX11_as_93 (zm := zm) (r := r) C hf hw (lv_sub hl [0, 1] rfl)
    · have hf := it_n hf hc1
      exact kX11_as_73 (zm := zm) (r := r) C hf hw (lv_sub hl [0, 1, 2, 3] rfl)
set_option maxRecDepth 100000 in
set_option maxHeartbeats 4000000 in
theorem kX11_as_58 {l : Launch} {g : evG} {p : Program} {e : Env} {s : State} {m : MethodId} {args : Array Value} {below : List Frame} {meth : Method} {c : Code} {A : Nat → Prop} {zm : Nat → Nat} {r : Int32} (C : ctx g p s m args meth c RX11 cX11_as 5 (some .int) A) {Tm : Gp} {x1 : Int32} {x2 : Int32} {x3 : Int32} {H : Heap} {locs : List Loc} {ls : Array Slot} (hf : fX11_as_58 Tm x1 x2 x3 = some (r)) (hw : wl g A s.heap (gcM g zm Tm) H locs) (hl : lv_has ls 5 [(0, .ref (zm 0)), (1, .int x1), (2, .int x2), (3, .int x3)]) : W p l e (rmK 2 46) s m args below meth c H locs 0 0 (MQ below (Qi g A (gcM g zm Tm) r) args s 0 0 A) (F0 m 58 ls []) := by
  obtain ⟨hx, hb, hml, hown, hts, -⟩ := id C
  unfold fX11_as_58 at hf
  refine lv_iload_n hx hb dX11_as_58 rfl (lv_at hl 3 rfl) ?_
  refine lv_iconst (v := (3 : Int32)) hx hb dX11_as_59 rfl ?_
  refine lv_icmp_eq (tgt := 93) hx hb dX11_as_60 (by decide) (fun hc1 => ?_) (fun hc1 => ?_)
  · have hf := it_p hf hc1
    exact kX11_as_93 (zm := zm) (r := r) C hf hw (lv_sub hl [0, 1] rfl)
  · have hf := it_n hf hc1
    exact kX11_as_63 (zm := zm) (r := r) C hf hw (lv_sub hl [0, 1, 2, 3] rfl)
set_option maxRecDepth 100000 in
set_option maxHeartbeats 4000000 in
theorem kX11_as_47 {l : Launch} {g : evG} {p : Program} {e : Env} {s : State} {m : MethodId} {args : Array Value} {below : List Frame} {meth : Method} {c : Code} {A : Nat → Prop} {zm : Nat → Nat} {r : Int32} (C : ctx g p s m args meth c RX11 cX11_as 5 (some .int) A) {Tm : Gp} {x1 : Int32} {x2 : Int32} {x3 : Int32} {H : Heap} {locs : List Loc} {ls : Array Slot} (hf : fX11_as_47 Tm x1 x2 x3 = some (r)) (hw : wl g A s.heap (gcM g zm Tm) H locs) (hl : lv_has ls 5 [(0, .ref (zm 0)), (1, .int x1), (2, .int x2), (3, .int x3)]) : W p l e (rmK 2 46) s m args below meth c H locs 0 0 (MQ below (Qi g A (gcM g zm Tm) r) args s 0 0 A) (F0 m 47 ls []) := by
  obtain ⟨hx, hb, hml, hown, hts, -⟩ := id C
  unfold fX11_as_47 at hf
  refine lv_iload_n hx hb dX11_as_47 rfl (lv_at hl 2 rfl) ?_
  refine lv_iconst (v := (2 : Int32)) hx hb dX11_as_48 rfl ?_
  refine lv_icmp_eq (tgt := 58) hx hb dX11_as_49 (by decide) (fun hc2 => ?_) (fun hc2 => ?_)
  · have hf := it_p hf hc2
    exact kX11_as_58 (zm := zm) (r := r) C hf hw (lv_sub hl [0, 1, 2, 3] rfl)
  · have hf := it_n hf hc2
    refine lv_iload_n hx hb dX11_as_52 rfl (lv_at hl 2 rfl) ?_
    refine lv_bipush (v := (6 : Int32)) hx hb dX11_as_53 rfl ?_
    refine lv_icmp_ne (tgt := 63) hx hb dX11_as_55 (by decide) (fun hc1 => ?_) (fun hc1 => ?_)
    · have hf := it_n hf hc1
      exact kX11_as_63 (zm := zm) (r := r) C hf hw (lv_sub hl [0, 1, 2, 3] rfl)
    · have hf := it_p hf hc1
      exact kX11_as_58 (zm := zm) (r := r) C hf hw (lv_sub hl [0, 1, 2, 3] rfl)
set_option maxRecDepth 100000 in
set_option maxHeartbeats 4000000 in
theorem c_X11_as {l : Launch} {g : evG} {zm : Nat → Nat} {r : Int32}  {Tm : Gp} {x1 : Int32} {x2 : Int32} (hf : fX11_as Tm x1 x2 = some (r)) : CTi l g yX11_as (Cond.code yX11_as cX11_as 5 (some .int)) 2 46 [.ref (zm 0), .int x1, .int x2] (gcM g zm Tm) (gcM g zm Tm) r := by
  refine ct_i rfl (Nat.le_of_ble_eq_true rfl) ?_
  intro p e s m args below meth c A ls C hw hl
  have C : ctx g p s m args meth c RX11 cX11_as 5 (some .int) A := C
  have hl : lv_has ls 5 [(0, .ref (zm 0)), (1, .int x1), (2, .int x2)] := hl
  obtain ⟨hx, hb, hml, hown, hts, -⟩ := id C
  unfold fX11_as at hf
  refine lv_aload_n hx hb dX11_as_0 rfl (lv_at hl 0 rfl) ?_
  refine lv_iload_n hx hb dX11_as_1 rfl (lv_at hl 1 rfl) ?_
  obtain ⟨r1, hc2, hf⟩ := bd1_e hf
  refine r_callVi0 C hw (c_X11_isPair (zm := zm) hc2) md_X11_isPair [0, 1, 2, 3, 4, 5, 6, 7, 8, 9, 10, 11, 12, 13, 14, 15, 16, 17, 18] rfl rfl q5_110 0 rfl cf_X11.1 ⟨Nat.le_of_ble_eq_true rfl, Nat.le_of_ble_eq_true rfl⟩ ⟨Nat.zero_le _, Nat.zero_le _⟩ hl.1 rfl rfl (Nat.le_of_ble_eq_true rfl) dX11_as_2 (fun H locs hw => ?_)
  refine lv_if_ne (tgt := 11) hx hb dX11_as_5 (by decide) (fun hc10 => ?_) (fun hc10 => ?_)
  · have hf := it_n hf hc10
    refine lv_iload_n hx hb dX11_as_11 rfl (lv_at hl 2 rfl) ?_
    refine lv_i2l hx hb dX11_as_12 rfl ?_
    refine lv_lconst (v := (0 : Int64)) hx hb dX11_as_13 rfl ?_
    refine lv_ldc2 (v := (6 : Int64)) hx hb hown (hts _ q5_177) dX11_as_14 ?_
    obtain ⟨r3, hc4, hf⟩ := bd1_e hf
    refine r_callSi0 C hw (c_X11_in hc4) md_X11_in [] rfl rfl q5_32 ⟨Nat.le_of_ble_eq_true rfl, Nat.le_of_ble_eq_true rfl⟩ ⟨Nat.zero_le _, Nat.zero_le _⟩ hl.1 rfl rfl (Nat.le_of_ble_eq_true rfl) dX11_as_17 (fun H locs hw => ?_)
    refine lv_if_ne (tgt := 26) hx hb dX11_as_20 (by decide) (fun hc9 => ?_) (fun hc9 => ?_)
    · have hf := it_n hf hc9
      refine lv_aload_n hx hb dX11_as_26 rfl (lv_at hl 0 rfl) ?_
      refine r_get C hw 0 rfl cf_X11 9 (by decide) q4_182 (v := .ref (zm 6)) rfl dX11_as_27 ?_
      refine lv_iload_n hx hb dX11_as_30 rfl (lv_at hl 1 rfl) ?_
      obtain ⟨hi5, hf⟩ := it_g hf
      refine r_iald C hw 6 (f := (Tm 6)) rfl hi5 dX11_as_31 ?_
      refine lv_istore_n (lv' := [(3, .int (Tm 6 x1.toNatClampNeg)), (0, .ref (zm 0)), (1, .int x1), (2, .int x2)]) hx hb dX11_as_32 rfl hl (by decide) rfl (fun ls hl => ?_)
      refine lv_iload_n hx hb dX11_as_33 rfl (lv_at hl 3 rfl) ?_
      refine lv_if_eq (tgt := 93) hx hb dX11_as_34 (by decide) (fun hc8 => ?_) (fun hc8 => ?_)
      · have hf := it_p hf hc8
        exact kX11_as_93 (zm := zm) (r := r) C hf hw (lv_sub hl [1, 2] rfl)
      · have hf := it_n hf hc8
        refine lv_iload_n hx hb dX11_as_37 rfl (lv_at hl 3 rfl) ?_
        refine lv_iconst (v := (1 : Int32)) hx hb dX11_as_38 rfl ?_
        refine lv_icmp_ne (tgt := 47) hx hb dX11_as_39 (by decide) (fun hc7 => ?_) (fun hc7 => ?_)
        · have hf := it_n hf hc7
          exact kX11_as_47 (zm := zm) (r := r) C hf hw (lv_sub hl [1, 2, 3, 0] rfl)
        · have hf := it_p hf hc7
          refine lv_iload_n hx hb dX11_as_42 rfl (lv_at hl 0 rfl) ?_
          refine lv_iconst (v := (3 : Int32)) hx hb dX11_as_43 rfl ?_
          refine lv_icmp_lt (tgt := 93) hx hb dX11_as_44 (by decide) (fun hc6 => ?_) (fun hc6 => ?_)
          · have hf := it_p hf hc6
            exact kX11_as_93 (zm := zm) (r := r) C hf hw (lv_sub hl [1, 2] rfl)
          · have hf := it_n hf hc6
            exact kX11_as_47 (zm := zm) (r := r) C hf hw (lv_sub hl [1, 2, 3, 0] rfl)
    · have hf := it_p hf hc9
      refine lv_bipush (v := (-3 : Int32)) hx hb dX11_as_23 rfl ?_
      obtain rfl := so1 hf
      exact r_iret C hw rfl dX11_as_25
  · have hf := it_p hf hc10
    refine lv_bipush (v := (-2 : Int32)) hx hb dX11_as_8 rfl ?_
    obtain rfl := so1 hf
    exact r_iret C hw rfl dX11_as_10
set_option maxRecDepth 100000 in
set_option maxHeartbeats 4000000 in
theorem kX11_fits_41 {l : Launch} {g : evG} {p : Program} {e : Env} {s : State} {m : MethodId} {args : Array Value} {below : List Frame} {meth : Method} {c : Code} {A : Nat → Prop} {zm : Nat → Nat} {r : Int32} (C : ctx g p s m args meth c RX11 cX11_fits 8 (some .boolean) A) {Tm : Gp} {x2 : Int32} {x3 : Int32} {x4 : Int32} {x5 : Int32} {x6 : Int32} {y0 : Int32} {H : Heap} {locs : List Loc} {ls : Array Slot} (hf : fX11_fits_41 Tm x2 x3 x4 x5 x6 y0 = some (r)) (hw : wl g A s.heap (gcM g zm Tm) H locs) (hl : lv_has ls 8 [(0, .ref (zm 0)), (2, .int x2), (3, .int x3), (4, .int x4), (5, .int x5), (6, .int x6)]) : W p l e (rmK 1 26) s m args below meth c H locs 0 0 (MQ below (Qi g A (gcM g zm Tm) r) args s 0 0 A) (F0 m 41 ls [.int y0]) := by
  obtain ⟨hx, hb, hml, hown, hts, -⟩ := id C
  unfold fX11_fits_41 at hf
  refine lv_istore (lv' := [(7, .int y0), (0, .ref (zm 0)), (2, .int x2), (3, .int x3), (4, .int x4), (5, .int x5), (6, .int x6)]) hx hb dX11_fits_41 hl (by decide) rfl (fun ls hl => ?_)
  refine lv_aload_n hx hb dX11_fits_43 rfl (lv_at hl 1 rfl) ?_
  refine lv_iconst (v := (0 : Int32)) hx hb dX11_fits_44 rfl ?_
  refine lv_iload hx hb dX11_fits_45 (lv_at hl 5 rfl) ?_
  refine lv_iload hx hb dX11_fits_47 (lv_at hl 6 rfl) ?_
  refine lv_iload_n hx hb dX11_fits_49 rfl (lv_at hl 3 rfl) ?_
  obtain ⟨r1, hc2, hf⟩ := bd1_e hf
  refine r_callVi0 C hw (c_X11_may (zm := zm) hc2) md_X11_may [0, 1, 2, 3, 4, 5, 6, 7, 8, 9, 10, 11, 12, 13, 14, 15, 16, 17, 18] rfl rfl q5_147 0 rfl cf_X11.1 ⟨Nat.le_of_ble_eq_true rfl, Nat.le_of_ble_eq_true rfl⟩ ⟨Nat.zero_le _, Nat.zero_le _⟩ hl.1 rfl rfl (Nat.le_of_ble_eq_true rfl) dX11_fits_50 (fun H locs hw => ?_)
  refine lv_if_eq (tgt := 99) hx hb dX11_fits_53 (by decide) (fun hc11 => ?_) (fun hc11 => ?_)
  · have hf := it_p hf hc11
    refine lv_iconst (v := (0 : Int32)) hx hb dX11_fits_99 rfl ?_
    obtain rfl := so1 hf
    exact r_zret C hw rfl rfl dX11_fits_100
  · have hf := it_n hf hc11
    refine lv_aload_n hx hb dX11_fits_56 rfl (lv_at hl 1 rfl) ?_
    refine lv_iconst (v := (1 : Int32)) hx hb dX11_fits_57 rfl ?_
    refine lv_iload hx hb dX11_fits_58 (lv_at hl 5 rfl) ?_
    refine lv_iload hx hb dX11_fits_60 (lv_at hl 6 rfl) ?_
    refine lv_iload hx hb dX11_fits_62 (lv_at hl 4 rfl) ?_
    obtain ⟨r3, hc4, hf⟩ := bd1_e hf
    refine r_callVi0 C hw (c_X11_may (zm := zm) hc4) md_X11_may [0, 1, 2, 3, 4, 5, 6, 7, 8, 9, 10, 11, 12, 13, 14, 15, 16, 17, 18] rfl rfl q5_147 0 rfl cf_X11.1 ⟨Nat.le_of_ble_eq_true rfl, Nat.le_of_ble_eq_true rfl⟩ ⟨Nat.zero_le _, Nat.zero_le _⟩ hl.1 rfl rfl (Nat.le_of_ble_eq_true rfl) dX11_fits_64 (fun H locs hw => ?_)
    refine lv_if_eq (tgt := 99) hx hb dX11_fits_67 (by decide) (fun hc10 => ?_) (fun hc10 => ?_)
    · have hf := it_p hf hc10
      refine lv_iconst (v := (0 : Int32)) hx hb dX11_fits_99 rfl ?_
      obtain rfl := so1 hf
      exact r_zret C hw rfl rfl dX11_fits_100
    · have hf := it_n hf hc10
      refine lv_aload_n hx hb dX11_fits_70 rfl (lv_at hl 1 rfl) ?_
      refine r_get C hw 0 rfl cf_X11 9 (by decide) q4_182 (v := .ref (zm 6)) rfl dX11_fits_71 ?_
      refine lv_iload hx hb dX11_fits_74 (lv_at hl 5 rfl) ?_
      obtain ⟨hi5, hf⟩ := it_g hf
      refine r_iald C hw 6 (f := (Tm 6)) rfl hi5 dX11_fits_76 ?_
      refine lv_iconst (v := (3 : Int32)) hx hb dX11_fits_77 rfl ?_
      refine lv_icmp_eq (tgt := 95) hx hb dX11_fits_78 (by decide) (fun hc9 => ?_) (fun hc9 => ?_)
      · have hf := it_p hf hc9
        refine lv_iconst (v := (1 : Int32)) hx hb dX11_fits_95 rfl ?_
        refine lv_goto (tgt := 100) hx hb dX11_fits_96 (by decide) ?_
        obtain rfl := so1 hf
        exact r_zret C hw rfl rfl dX11_fits_100
      · have hf := it_n hf hc9
        refine lv_iload hx hb dX11_fits_81 (lv_at hl 0 rfl) ?_
        refine lv_iload_n hx hb dX11_fits_83 rfl (lv_at hl 2 rfl) ?_
        refine lv_if_ne (tgt := 91) hx hb dX11_fits_84 (by decide) (fun hc8 => ?_) (fun hc8 => ?_)
        · have hf := it_n hf hc8
          refine lv_iconst (v := (0 : Int32)) hx hb dX11_fits_91 rfl ?_
          refine lv_icmp_ne (tgt := 99) hx hb dX11_fits_92 (by decide) (fun hc6 => ?_) (fun hc6 => ?_)
          · have hf := it_n hf hc6
            refine lv_iconst (v := (0 : Int32)) hx hb dX11_fits_99 rfl ?_
            obtain rfl := so1 hf
            exact r_zret C hw rfl rfl dX11_fits_100
          · have hf := it_p hf hc6
            refine lv_iconst (v := (1 : Int32)) hx hb dX11_fits_95 rfl ?_
            refine lv_goto (tgt := 100) hx hb dX11_fits_96 (by decide) ?_
            obtain rfl := so1 hf
            exact r_zret C hw rfl rfl dX11_fits_100
        · have hf := it_p hf hc8
          refine lv_iconst (v := (1 : Int32)) hx hb dX11_fits_87 rfl ?_
          refine lv_goto (tgt := 92) hx hb dX11_fits_88 (by decide) ?_
          refine lv_icmp_ne (tgt := 99) hx hb dX11_fits_92 (by decide) (fun hc7 => ?_) (fun hc7 => ?_)
          · have hf := it_n hf hc7
            refine lv_iconst (v := (0 : Int32)) hx hb dX11_fits_99 rfl ?_
            obtain rfl := so1 hf
            exact r_zret C hw rfl rfl dX11_fits_100
          · have hf := it_p hf hc7
            refine lv_iconst (v := (1 : Int32)) hx hb dX11_fits_95 rfl ?_
            refine lv_goto (tgt := 100) hx hb dX11_fits_96 (by decide) ?_
            obtain rfl := so1 hf
            exact r_zret C hw rfl rfl dX11_fits_100
set_option maxRecDepth 100000 in
set_option maxHeartbeats 4000000 in
theorem c_X11_fits {l : Launch} {g : evG} {zm : Nat → Nat} {r : Int32}  {Tm : Gp} {x1 : Int32} {x2 : Int32} {x3 : Int32} {x4 : Int32} (hf : fX11_fits Tm x1 x2 x3 x4 = some (r)) : CTi l g yX11_fits (Cond.code yX11_fits cX11_fits 8 (some .boolean)) 1 26 [.ref (zm 0), .int x1, .int x2, .int x3, .int x4] (gcM g zm Tm) (gcM g zm Tm) r := by
  refine ct_i rfl (Nat.le_of_ble_eq_true rfl) ?_
  intro p e s m args below meth c A ls C hw hl
  have C : ctx g p s m args meth c RX11 cX11_fits 8 (some .boolean) A := C
  have hl : lv_has ls 8 [(0, .ref (zm 0)), (1, .int x1), (2, .int x2), (3, .int x3), (4, .int x4)] := hl
  obtain ⟨hx, hb, hml, hown, hts, -⟩ := id C
  unfold fX11_fits at hf
  refine lv_iload_n hx hb dX11_fits_0 rfl (lv_at hl 1 rfl) ?_
  refine lv_aload_n hx hb dX11_fits_1 rfl (lv_at hl 0 rfl) ?_
  refine r_get C hw 0 rfl cf_X11 7 (by decide) q4_180 (v := .int (Tm 0 7)) rfl dX11_fits_2 ?_
  obtain ⟨hn1, hf⟩ := it_g hf
  refine lv_idiv hx hb dX11_fits_5 hn1 ?_
  refine lv_istore (lv' := [(5, .int (x1 / (Tm 0 7))), (0, .ref (zm 0)), (1, .int x1), (2, .int x2), (3, .int x3), (4, .int x4)]) hx hb dX11_fits_6 hl (by decide) rfl (fun ls hl => ?_)
  refine lv_iload_n hx hb dX11_fits_8 rfl (lv_at hl 2 rfl) ?_
  refine lv_aload_n hx hb dX11_fits_9 rfl (lv_at hl 1 rfl) ?_
  refine r_get C hw 0 rfl cf_X11 7 (by decide) q4_180 (v := .int (Tm 0 7)) rfl dX11_fits_10 ?_
  obtain ⟨hn2, hf⟩ := it_g hf
  refine lv_irm hx hb dX11_fits_13 hn2 ?_
  refine lv_istore (lv' := [(6, .int (irm x1 (Tm 0 7))), (5, .int (x1 / (Tm 0 7))), (0, .ref (zm 0)), (1, .int x1), (2, .int x2), (3, .int x3), (4, .int x4)]) hx hb dX11_fits_14 hl (by decide) rfl (fun ls hl => ?_)
  refine lv_aload_n hx hb dX11_fits_16 rfl (lv_at hl 2 rfl) ?_
  refine r_get C hw 0 rfl cf_X11 8 (by decide) q4_181 (v := .ref (zm 5)) rfl dX11_fits_17 ?_
  refine lv_iconst (v := (4 : Int32)) hx hb dX11_fits_20 rfl ?_
  refine lv_iload_n hx hb dX11_fits_21 rfl (lv_at hl 5 rfl) ?_
  refine lv_imul hx hb dX11_fits_22 ?_
  obtain ⟨hi3, hf⟩ := it_g hf
  refine r_iald C hw 5 (f := (Tm 5)) rfl hi3 dX11_fits_23 ?_
  refine lv_aload_n hx hb dX11_fits_24 rfl (lv_at hl 2 rfl) ?_
  refine r_get C hw 0 rfl cf_X11 8 (by decide) q4_181 (v := .ref (zm 5)) rfl dX11_fits_25 ?_
  refine lv_iconst (v := (4 : Int32)) hx hb dX11_fits_28 rfl ?_
  refine lv_iload hx hb dX11_fits_29 (lv_at hl 6 rfl) ?_
  refine lv_imul hx hb dX11_fits_31 ?_
  obtain ⟨hi4, hf⟩ := it_g hf
  refine r_iald C hw 5 (f := (Tm 5)) rfl hi4 dX11_fits_32 ?_
  refine lv_icmp_ne (tgt := 40) hx hb dX11_fits_33 (by decide) (fun hc5 => ?_) (fun hc5 => ?_)
  · have hf := it_n hf hc5
    refine lv_iconst (v := (0 : Int32)) hx hb dX11_fits_40 rfl ?_
    exact kX11_fits_41 (zm := zm) (r := r) C hf hw (lv_sub hl [2, 4, 5, 6, 1, 0] rfl)
  · have hf := it_p hf hc5
    refine lv_iconst (v := (1 : Int32)) hx hb dX11_fits_36 rfl ?_
    refine lv_goto (tgt := 41) hx hb dX11_fits_37 (by decide) ?_
    exact kX11_fits_41 (zm := zm) (r := r) C hf hw (lv_sub hl [2, 4, 5, 6, 1, 0] rfl)
set_option maxRecDepth 100000 in
set_option maxHeartbeats 4000000 in
theorem c_X11_breadOf {l : Launch} {g : evG} {zm : Nat → Nat} {r : Int32}  {Tm : Gp} {x1 : Int32} {x2 : Int32} {x3 : Int32} (hf : fX11_breadOf Tm x1 x2 x3 = some (r)) : CTi l g yX11_breadOf (Cond.code yX11_breadOf cX11_breadOf 6 (some .int)) 0 0 [.ref (zm 0), .int x1, .int x2, .int x3] (gcM g zm Tm) (gcM g zm Tm) r := by
  refine ct_i rfl (Nat.le_of_ble_eq_true rfl) ?_
  intro p e s m args below meth c A ls C hw hl
  have C : ctx g p s m args meth c RX11 cX11_breadOf 6 (some .int) A := C
  have hl : lv_has ls 6 [(0, .ref (zm 0)), (1, .int x1), (2, .int x2), (3, .int x3)] := hl
  obtain ⟨hx, hb, hml, hown, hts, -⟩ := id C
  unfold fX11_breadOf at hf
  refine lv_aload_n hx hb dX11_breadOf_0 rfl (lv_at hl 0 rfl) ?_
  refine r_get C hw 0 rfl cf_X11 8 (by decide) q4_181 (v := .ref (zm 5)) rfl dX11_breadOf_1 ?_
  refine lv_iconst (v := (4 : Int32)) hx hb dX11_breadOf_4 rfl ?_
  refine lv_iload_n hx hb dX11_breadOf_5 rfl (lv_at hl 2 rfl) ?_
  refine lv_imul hx hb dX11_breadOf_6 ?_
  refine lv_iconst (v := (1 : Int32)) hx hb dX11_breadOf_7 rfl ?_
  refine lv_iadd hx hb dX11_breadOf_8 ?_
  obtain ⟨hi1, hf⟩ := it_g hf
  refine r_iald C hw 5 (f := (Tm 5)) rfl hi1 dX11_breadOf_9 ?_
  refine lv_istore (lv' := [(4, .int (Tm 5 (((4 : Int32) * x2) + (1 : Int32)).toNatClampNeg)), (0, .ref (zm 0)), (1, .int x1), (2, .int x2), (3, .int x3)]) hx hb dX11_breadOf_10 hl (by decide) rfl (fun ls hl => ?_)
  refine lv_aload_n hx hb dX11_breadOf_12 rfl (lv_at hl 1 rfl) ?_
  refine r_get C hw 0 rfl cf_X11 8 (by decide) q4_181 (v := .ref (zm 5)) rfl dX11_breadOf_13 ?_
  refine lv_iconst (v := (4 : Int32)) hx hb dX11_breadOf_16 rfl ?_
  refine lv_iload_n hx hb dX11_breadOf_17 rfl (lv_at hl 4 rfl) ?_
  refine lv_imul hx hb dX11_breadOf_18 ?_
  refine lv_iconst (v := (2 : Int32)) hx hb dX11_breadOf_19 rfl ?_
  refine lv_iadd hx hb dX11_breadOf_20 ?_
  obtain ⟨hi2, hf⟩ := it_g hf
  refine r_iald C hw 5 (f := (Tm 5)) rfl hi2 dX11_breadOf_21 ?_
  refine lv_istore (lv' := [(5, .int (Tm 5 (((4 : Int32) * x3) + (2 : Int32)).toNatClampNeg)), (4, .int (Tm 5 (((4 : Int32) * x2) + (1 : Int32)).toNatClampNeg)), (0, .ref (zm 0)), (1, .int x1), (2, .int x2), (3, .int x3)]) hx hb dX11_breadOf_22 hl (by decide) rfl (fun ls hl => ?_)
  refine lv_aload_n hx hb dX11_breadOf_24 rfl (lv_at hl 2 rfl) ?_
  refine r_get C hw 0 rfl cf_X11 9 (by decide) q4_182 (v := .ref (zm 6)) rfl dX11_breadOf_25 ?_
  refine lv_iload_n hx hb dX11_breadOf_28 rfl (lv_at hl 3 rfl) ?_
  refine lv_aload_n hx hb dX11_breadOf_29 rfl (lv_at hl 2 rfl) ?_
  refine r_get C hw 0 rfl cf_X11 7 (by decide) q4_180 (v := .int (Tm 0 7)) rfl dX11_breadOf_30 ?_
  obtain ⟨hn3, hf⟩ := it_g hf
  refine lv_idiv hx hb dX11_breadOf_33 hn3 ?_
  obtain ⟨hi4, hf⟩ := it_g hf
  refine r_iald C hw 6 (f := (Tm 6)) rfl hi4 dX11_breadOf_34 ?_
  refine lv_iconst (v := (2 : Int32)) hx hb dX11_breadOf_35 rfl ?_
  refine lv_icmp_ne (tgt := 51) hx hb dX11_breadOf_36 (by decide) (fun hc5 => ?_) (fun hc5 => ?_)
  · have hf := it_n hf hc5
    refine lv_iload hx hb dX11_breadOf_51 (lv_at hl 1 rfl) ?_
    refine lv_iload hx hb dX11_breadOf_53 (lv_at hl 0 rfl) ?_
    refine lv_iadd hx hb dX11_breadOf_55 ?_
    obtain rfl := so1 hf
    exact r_iret C hw rfl dX11_breadOf_56
  · have hf := it_p hf hc5
    refine lv_iload hx hb dX11_breadOf_39 (lv_at hl 1 rfl) ?_
    refine lv_iconst (v := (2 : Int32)) hx hb dX11_breadOf_41 rfl ?_
    refine lv_idiv hx hb dX11_breadOf_42 (by decide) ?_
    refine lv_iload hx hb dX11_breadOf_43 (lv_at hl 0 rfl) ?_
    refine lv_iconst (v := (2 : Int32)) hx hb dX11_breadOf_45 rfl ?_
    refine lv_idiv hx hb dX11_breadOf_46 (by decide) ?_
    refine lv_iadd hx hb dX11_breadOf_47 ?_
    refine lv_goto (tgt := 56) hx hb dX11_breadOf_48 (by decide) ?_
    obtain rfl := so1 hf
    exact r_iret C hw rfl dX11_breadOf_56
set_option maxRecDepth 100000 in
set_option maxHeartbeats 4000000 in
theorem kX11_worthBy_50 {l : Launch} {g : evG} {p : Program} {e : Env} {s : State} {m : MethodId} {args : Array Value} {below : List Frame} {meth : Method} {c : Code} {A : Nat → Prop} {zm : Nat → Nat} {r : Int32} (C : ctx g p s m args meth c RX11 cX11_worthBy 8 (some .int) A) {Tm : Gp} {x4 : Int32} {x5 : Int32} {y1 : Int32} {y2 : Int32} {H : Heap} {locs : List Loc} {ls : Array Slot} (hf : fX11_worthBy_50 Tm x4 x5 y1 y2 = some (r)) (hw : wl g A s.heap (gcM g zm Tm) H locs) (hl : lv_has ls 8 [(0, .ref (zm 0)), (4, .int x4), (5, .int x5)]) : W p l e (rmK 2 53) s m args below meth c H locs 0 0 (MQ below (Qi g A (gcM g zm Tm) r) args s 0 0 A) (F0 m 50 ls [.int y2, .int y1, .ref (zm 9)]) := by
  obtain ⟨hx, hb, hml, hown, hts, -⟩ := id C
  unfold fX11_worthBy_50 at hf
  refine lv_iadd hx hb dX11_worthBy_50 ?_
  obtain ⟨hi1, hf⟩ := it_g hf
  refine r_iald C hw 9 (f := (Tm 9)) rfl hi1 dX11_worthBy_51 ?_
  refine lv_istore (lv' := [(7, .int (Tm 9 (y1 + y2).toNatClampNeg)), (0, .ref (zm 0)), (4, .int x4), (5, .int x5)]) hx hb dX11_worthBy_52 hl (by decide) rfl (fun ls hl => ?_)
  refine lv_iload hx hb dX11_worthBy_54 (lv_at hl 0 rfl) ?_
  refine lv_iconst (v := (-1 : Int32)) hx hb dX11_worthBy_56 rfl ?_
  refine lv_icmp_ne (tgt := 64) hx hb dX11_worthBy_57 (by decide) (fun hc4 => ?_) (fun hc4 => ?_)
  · have hf := it_n hf hc4
    refine lv_iload hx hb dX11_worthBy_64 (lv_at hl 0 rfl) ?_
    refine lv_aload_n hx hb dX11_worthBy_66 rfl (lv_at hl 1 rfl) ?_
    refine r_get C hw 0 rfl cf_X11 8 (by decide) q4_181 (v := .ref (zm 5)) rfl dX11_worthBy_67 ?_
    refine lv_iconst (v := (4 : Int32)) hx hb dX11_worthBy_70 rfl ?_
    refine lv_iload hx hb dX11_worthBy_71 (lv_at hl 2 rfl) ?_
    refine lv_imul hx hb dX11_worthBy_73 ?_
    refine lv_iconst (v := (3 : Int32)) hx hb dX11_worthBy_74 rfl ?_
    refine lv_iadd hx hb dX11_worthBy_75 ?_
    obtain ⟨hi2, hf⟩ := it_g hf
    refine r_iald C hw 5 (f := (Tm 5)) rfl hi2 dX11_worthBy_76 ?_
    refine lv_iadd hx hb dX11_worthBy_77 ?_
    refine lv_aload_n hx hb dX11_worthBy_78 rfl (lv_at hl 1 rfl) ?_
    refine r_get C hw 0 rfl cf_X11 8 (by decide) q4_181 (v := .ref (zm 5)) rfl dX11_worthBy_79 ?_
    refine lv_iconst (v := (4 : Int32)) hx hb dX11_worthBy_82 rfl ?_
    refine lv_iload hx hb dX11_worthBy_83 (lv_at hl 3 rfl) ?_
    refine lv_imul hx hb dX11_worthBy_85 ?_
    refine lv_iconst (v := (3 : Int32)) hx hb dX11_worthBy_86 rfl ?_
    refine lv_iadd hx hb dX11_worthBy_87 ?_
    obtain ⟨hi3, hf⟩ := it_g hf
    refine r_iald C hw 5 (f := (Tm 5)) rfl hi3 dX11_worthBy_88 ?_
    refine lv_iadd hx hb dX11_worthBy_89 ?_
    obtain rfl := so1 hf
    exact r_iret C hw rfl dX11_worthBy_90
  · have hf := it_p hf hc4
    refine lv_iconst (v := (-1 : Int32)) hx hb dX11_worthBy_60 rfl ?_
    refine lv_goto (tgt := 90) hx hb dX11_worthBy_61 (by decide) ?_
    obtain rfl := so1 hf
    exact r_iret C hw rfl dX11_worthBy_90
set_option maxRecDepth 100000 in
set_option maxHeartbeats 4000000 in
theorem c_X11_worthBy {l : Launch} {g : evG} {zm : Nat → Nat} {r : Int32}  {Tm : Gp} {x1 : Int32} {x2 : Int32} {x3 : Int32} {x4 : Int32} {x5 : Int32} (hf : fX11_worthBy Tm x1 x2 x3 x4 x5 = some (r)) : CTi l g yX11_worthBy (Cond.code yX11_worthBy cX11_worthBy 8 (some .int)) 2 53 [.ref (zm 0), .int x1, .int x2, .int x3, .int x4, .int x5] (gcM g zm Tm) (gcM g zm Tm) r := by
  refine ct_i rfl (Nat.le_of_ble_eq_true rfl) ?_
  intro p e s m args below meth c A ls C hw hl
  have C : ctx g p s m args meth c RX11 cX11_worthBy 8 (some .int) A := C
  have hl : lv_has ls 8 [(0, .ref (zm 0)), (1, .int x1), (2, .int x2), (3, .int x3), (4, .int x4), (5, .int x5)] := hl
  obtain ⟨hx, hb, hml, hown, hts, -⟩ := id C
  unfold fX11_worthBy at hf
  refine lv_aload_n hx hb dX11_worthBy_0 rfl (lv_at hl 0 rfl) ?_
  refine lv_iload_n hx hb dX11_worthBy_1 rfl (lv_at hl 1 rfl) ?_
  refine lv_iload_n hx hb dX11_worthBy_2 rfl (lv_at hl 2 rfl) ?_
  refine lv_iload hx hb dX11_worthBy_3 (lv_at hl 4 rfl) ?_
  refine lv_iload hx hb dX11_worthBy_5 (lv_at hl 5 rfl) ?_
  obtain ⟨r1, hc2, hf⟩ := bd1_e hf
  refine r_callVi0 C hw (c_X11_fits (zm := zm) hc2) md_X11_fits [0, 1, 2, 3, 4, 5, 6, 7, 8, 9, 10, 11, 12, 13, 14, 15, 16, 17, 18] rfl rfl q5_198 0 rfl cf_X11.1 ⟨Nat.le_of_ble_eq_true rfl, Nat.le_of_ble_eq_true rfl⟩ ⟨Nat.zero_le _, Nat.zero_le _⟩ hl.1 rfl rfl (Nat.le_of_ble_eq_true rfl) dX11_worthBy_7 (fun H locs hw => ?_)
  refine lv_if_ne (tgt := 15) hx hb dX11_worthBy_10 (by decide) (fun hc6 => ?_) (fun hc6 => ?_)
  · have hf := it_n hf hc6
    refine lv_iload_n hx hb dX11_worthBy_15 rfl (lv_at hl 3 rfl) ?_
    refine lv_aload_n hx hb dX11_worthBy_16 rfl (lv_at hl 0 rfl) ?_
    refine lv_iload_n hx hb dX11_worthBy_17 rfl (lv_at hl 1 rfl) ?_
    refine lv_iload hx hb dX11_worthBy_18 (lv_at hl 4 rfl) ?_
    refine lv_iload hx hb dX11_worthBy_20 (lv_at hl 5 rfl) ?_
    obtain ⟨r3, hc4, hf⟩ := bd1_e hf
    refine r_callVi0 C hw (c_X11_breadOf (zm := zm) hc4) md_X11_breadOf [0, 1, 2, 3, 4, 5, 6, 7, 8, 9, 10, 11, 12, 13, 14, 15, 16, 17, 18] rfl rfl q5_202 0 rfl cf_X11.1 ⟨Nat.le_of_ble_eq_true rfl, Nat.le_of_ble_eq_true rfl⟩ ⟨Nat.zero_le _, Nat.zero_le _⟩ hl.1 rfl rfl (Nat.le_of_ble_eq_true rfl) dX11_worthBy_22 (fun H locs hw => ?_)
    refine lv_isub hx hb dX11_worthBy_25 ?_
    refine lv_istore (lv' := [(6, .int (x3 - r3)), (0, .ref (zm 0)), (1, .int x1), (2, .int x2), (3, .int x3), (4, .int x4), (5, .int x5)]) hx hb dX11_worthBy_26 hl (by decide) rfl (fun ls hl => ?_)
    refine lv_aload_n hx hb dX11_worthBy_28 rfl (lv_at hl 1 rfl) ?_
    refine r_get C hw 0 rfl cf_X11 19 (by decide) q4_192 (v := .ref (zm 9)) rfl dX11_worthBy_29 ?_
    refine lv_sipush (v := (201 : Int32)) hx hb dX11_worthBy_32 rfl ?_
    refine lv_iload_n hx hb dX11_worthBy_35 rfl (lv_at hl 2 rfl) ?_
    refine lv_iconst (v := (1 : Int32)) hx hb dX11_worthBy_36 rfl ?_
    refine lv_iadd hx hb dX11_worthBy_37 ?_
    refine lv_imul hx hb dX11_worthBy_38 ?_
    refine lv_iload hx hb dX11_worthBy_39 (lv_at hl 0 rfl) ?_
    refine lv_if_le (tgt := 49) hx hb dX11_worthBy_41 (by decide) (fun hc5 => ?_) (fun hc5 => ?_)
    · have hf := it_p hf hc5
      refine lv_iconst (v := (0 : Int32)) hx hb dX11_worthBy_49 rfl ?_
      exact kX11_worthBy_50 (zm := zm) (r := r) C hf hw (lv_sub hl [1, 5, 6] rfl)
    · have hf := it_n hf hc5
      refine lv_iload hx hb dX11_worthBy_44 (lv_at hl 0 rfl) ?_
      refine lv_goto (tgt := 50) hx hb dX11_worthBy_46 (by decide) ?_
      exact kX11_worthBy_50 (zm := zm) (r := r) C hf hw (lv_sub hl [1, 5, 6] rfl)
  · have hf := it_p hf hc6
    refine lv_iconst (v := (-1 : Int32)) hx hb dX11_worthBy_13 rfl ?_
    obtain rfl := so1 hf
    exact r_iret C hw rfl dX11_worthBy_14
set_option maxRecDepth 100000 in
set_option maxHeartbeats 4000000 in
theorem kX11_layWorths_73 {l : Launch} {g : evG} {p : Program} {e : Env} {s : State} {m : MethodId} {args : Array Value} {below : List Frame} {meth : Method} {c : Code} {A : Nat → Prop} {zm : Nat → Nat} {om : Gp} (C : ctx g p s m args meth c RX11 cX11_layWorths 9 none A) {rec53 : Gp → Int32 → Int32 → Int32 → Option (Gp)} {rec61 : Gp → Int32 → Int32 → Int32 → Int32 → Option (Gp)} {rec73 : Gp → Int32 → Int32 → Int32 → Int32 → Int32 → Int32 → Option (Gp)} (hr53 : ∀ (Tm : Gp) (x1 : Int32) (x2 : Int32) (x4 : Int32) (H : Heap) (locs : List Loc) (ls : Array Slot), rec53 Tm x1 x2 x4 = some (om) → wl g A s.heap (gcM g zm Tm) H locs → lv_has ls 9 [(0, .ref (zm 0)), (1, .int x1), (2, .int x2), (4, .int x4)] → W p l e (rmK 3 80) s m args below meth c H locs 0 0 (MQ below (Qv g A (gcM g zm om)) args s 0 0 A) (F0 m 53 ls [])) (hr61 : ∀ (Tm : Gp) (x1 : Int32) (x2 : Int32) (x4 : Int32) (x5 : Int32) (H : Heap) (locs : List Loc) (ls : Array Slot), rec61 Tm x1 x2 x4 x5 = some (om) → wl g A s.heap (gcM g zm Tm) H locs → lv_has ls 9 [(0, .ref (zm 0)), (1, .int x1), (2, .int x2), (4, .int x4), (5, .int x5)] → W p l e (rmK 3 80) s m args below meth c H locs 0 0 (MQ below (Qv g A (gcM g zm om)) args s 0 0 A) (F0 m 61 ls [])) (hr73 : ∀ (Tm : Gp) (x1 : Int32) (x2 : Int32) (x4 : Int32) (x5 : Int32) (x6 : Int32) (x7 : Int32) (H : Heap) (locs : List Loc) (ls : Array Slot), rec73 Tm x1 x2 x4 x5 x6 x7 = some (om) → wl g A s.heap (gcM g zm Tm) H locs → lv_has ls 9 [(0, .ref (zm 0)), (1, .int x1), (2, .int x2), (4, .int x4), (5, .int x5), (6, .int x6), (7, .int x7)] → W p l e (rmK 3 80) s m args below meth c H locs 0 0 (MQ below (Qv g A (gcM g zm om)) args s 0 0 A) (F0 m 73 ls [])) {Tm : Gp} {x1 : Int32} {x2 : Int32} {x4 : Int32} {x5 : Int32} {x6 : Int32} {x7 : Int32} {H : Heap} {locs : List Loc} {ls : Array Slot} (hf : fX11_layWorths_73 rec53 rec61 rec73 Tm x1 x2 x4 x5 x6 x7 = some (om)) (hw : wl g A s.heap (gcM g zm Tm) H locs) (hl : lv_has ls 9 [(0, .ref (zm 0)), (1, .int x1), (2, .int x2), (4, .int x4), (5, .int x5), (6, .int x6), (7, .int x7)]) : W p l e (rmK 3 80) s m args below meth c H locs 0 0 (MQ below (Qv g A (gcM g zm om)) args s 0 0 A) (F0 m 73 ls []) := by
  obtain ⟨hx, hb, hml, hown, hts, -⟩ := id C
  unfold fX11_layWorths_73 at hf
  refine lv_iload hx hb dX11_layWorths_73 (lv_at hl 6 rfl) ?_
  refine lv_bipush (v := (36 : Int32)) hx hb dX11_layWorths_75 rfl ?_
  refine lv_icmp_ge (tgt := 123) hx hb dX11_layWorths_77 (by decide) (fun hc5 => ?_) (fun hc5 => ?_)
  · have hf := it_p hf hc5
    refine lv_aload_n hx hb dX11_layWorths_123 rfl (lv_at hl 0 rfl) ?_
    refine r_get C hw 0 rfl cf_X11 19 (by decide) q4_192 (v := .ref (zm 9)) rfl dX11_layWorths_124 ?_
    refine lv_sipush (v := (201 : Int32)) hx hb dX11_layWorths_127 rfl ?_
    refine lv_iload hx hb dX11_layWorths_130 (lv_at hl 3 rfl) ?_
    refine lv_imul hx hb dX11_layWorths_132 ?_
    refine lv_iload hx hb dX11_layWorths_133 (lv_at hl 4 rfl) ?_
    refine lv_iadd hx hb dX11_layWorths_135 ?_
    refine lv_iload hx hb dX11_layWorths_136 (lv_at hl 5 rfl) ?_
    obtain ⟨hi1, hf⟩ := it_g hf
    refine r_iast C hw 9 (f := (Tm 9)) rfl hi1 (ws' := (gcM g zm (u2 Tm 9 (((201 : Int32) * x4) + x5).toNatClampNeg x6))) gcM_a9 dX11_layWorths_138 (fun H locs hw => ?_)
    refine lv_iinc (v := (x5 + (1 : Int32))) (lv' := [(5, .int (x5 + (1 : Int32))), (0, .ref (zm 0)), (1, .int x1), (2, .int x2), (4, .int x4), (6, .int x6), (7, .int x7)]) hx hb dX11_layWorths_139 hl (k := 4) rfl rfl (by decide) rfl (fun ls hl => ?_)
    refine lv_goto (tgt := 61) hx hb dX11_layWorths_142 (by decide) ?_
    exact hr61 _ _ _ _ _ _ _ _ hf hw (lv_sub hl [1, 2, 3, 4, 0] rfl)
  · have hf := it_n hf hc5
    refine lv_aload_n hx hb dX11_layWorths_80 rfl (lv_at hl 0 rfl) ?_
    refine lv_iload hx hb dX11_layWorths_81 (lv_at hl 3 rfl) ?_
    refine lv_iload_n hx hb dX11_layWorths_83 rfl (lv_at hl 1 rfl) ?_
    refine lv_iload hx hb dX11_layWorths_84 (lv_at hl 4 rfl) ?_
    refine lv_iload hx hb dX11_layWorths_86 (lv_at hl 6 rfl) ?_
    refine lv_bipush (v := (6 : Int32)) hx hb dX11_layWorths_88 rfl ?_
    refine lv_idiv hx hb dX11_layWorths_90 (by decide) ?_
    refine lv_iload hx hb dX11_layWorths_91 (lv_at hl 6 rfl) ?_
    refine lv_bipush (v := (6 : Int32)) hx hb dX11_layWorths_93 rfl ?_
    refine lv_irm hx hb dX11_layWorths_95 (by decide) ?_
    obtain ⟨r2, hc3, hf⟩ := bd1_e hf
    refine r_callVi0 C hw (c_X11_worthBy (zm := zm) hc3) md_X11_worthBy [0, 1, 2, 3, 4, 5, 6, 7, 8, 9, 10, 11, 12, 13, 14, 15, 16, 17, 18] rfl rfl q5_194 0 rfl cf_X11.1 ⟨Nat.le_of_ble_eq_true rfl, Nat.le_of_ble_eq_true rfl⟩ ⟨Nat.zero_le _, Nat.zero_le _⟩ hl.1 rfl rfl (Nat.le_of_ble_eq_true rfl) dX11_layWorths_96 (fun H locs hw => ?_)
    refine lv_istore (lv' := [(8, .int r2), (0, .ref (zm 0)), (1, .int x1), (2, .int x2), (4, .int x4), (5, .int x5), (6, .int x6), (7, .int x7)]) hx hb dX11_layWorths_99 hl (by decide) rfl (fun ls hl => ?_)
    refine lv_iload hx hb dX11_layWorths_101 (lv_at hl 0 rfl) ?_
    refine lv_iload hx hb dX11_layWorths_103 (lv_at hl 6 rfl) ?_
    refine lv_icmp_le (tgt := 113) hx hb dX11_layWorths_105 (by decide) (fun hc4 => ?_) (fun hc4 => ?_)
    · have hf := it_p hf hc4
      refine lv_iload hx hb dX11_layWorths_113 (lv_at hl 6 rfl) ?_
      refine lv_istore (lv' := [(6, .int x6), (8, .int r2), (0, .ref (zm 0)), (1, .int x1), (2, .int x2), (4, .int x4), (5, .int x5), (7, .int x7)]) hx hb dX11_layWorths_115 hl (by decide) rfl (fun ls hl => ?_)
      refine lv_iinc (v := (x7 + (1 : Int32))) (lv' := [(7, .int (x7 + (1 : Int32))), (6, .int x6), (8, .int r2), (0, .ref (zm 0)), (1, .int x1), (2, .int x2), (4, .int x4), (5, .int x5)]) hx hb dX11_layWorths_117 hl (k := 7) rfl rfl (by decide) rfl (fun ls hl => ?_)
      refine lv_goto (tgt := 73) hx hb dX11_layWorths_120 (by decide) ?_
      exact hr73 _ _ _ _ _ _ _ _ _ _ hf hw (lv_sub hl [3, 4, 5, 6, 7, 1, 0] rfl)
    · have hf := it_n hf hc4
      refine lv_iload hx hb dX11_layWorths_108 (lv_at hl 0 rfl) ?_
      refine lv_goto (tgt := 115) hx hb dX11_layWorths_110 (by decide) ?_
      refine lv_istore (lv' := [(6, .int r2), (8, .int r2), (0, .ref (zm 0)), (1, .int x1), (2, .int x2), (4, .int x4), (5, .int x5), (7, .int x7)]) hx hb dX11_layWorths_115 hl (by decide) rfl (fun ls hl => ?_)
      refine lv_iinc (v := (x7 + (1 : Int32))) (lv' := [(7, .int (x7 + (1 : Int32))), (6, .int r2), (8, .int r2), (0, .ref (zm 0)), (1, .int x1), (2, .int x2), (4, .int x4), (5, .int x5)]) hx hb dX11_layWorths_117 hl (k := 7) rfl rfl (by decide) rfl (fun ls hl => ?_)
      refine lv_goto (tgt := 73) hx hb dX11_layWorths_120 (by decide) ?_
      exact hr73 _ _ _ _ _ _ _ _ _ _ hf hw (lv_sub hl [3, 4, 5, 6, 7, 1, 0] rfl)
set_option maxRecDepth 100000 in
set_option maxHeartbeats 4000000 in
theorem klX11_layWorths_73 {l : Launch} {g : evG} {p : Program} {e : Env} {s : State} {m : MethodId} {args : Array Value} {below : List Frame} {meth : Method} {c : Code} {A : Nat → Prop} {zm : Nat → Nat} {om : Gp} (C : ctx g p s m args meth c RX11 cX11_layWorths 9 none A) {rec53 : Gp → Int32 → Int32 → Int32 → Option (Gp)} {rec61 : Gp → Int32 → Int32 → Int32 → Int32 → Option (Gp)} (hr53 : ∀ (Tm : Gp) (x1 : Int32) (x2 : Int32) (x4 : Int32) (H : Heap) (locs : List Loc) (ls : Array Slot), rec53 Tm x1 x2 x4 = some (om) → wl g A s.heap (gcM g zm Tm) H locs → lv_has ls 9 [(0, .ref (zm 0)), (1, .int x1), (2, .int x2), (4, .int x4)] → W p l e (rmK 3 80) s m args below meth c H locs 0 0 (MQ below (Qv g A (gcM g zm om)) args s 0 0 A) (F0 m 53 ls [])) (hr61 : ∀ (Tm : Gp) (x1 : Int32) (x2 : Int32) (x4 : Int32) (x5 : Int32) (H : Heap) (locs : List Loc) (ls : Array Slot), rec61 Tm x1 x2 x4 x5 = some (om) → wl g A s.heap (gcM g zm Tm) H locs → lv_has ls 9 [(0, .ref (zm 0)), (1, .int x1), (2, .int x2), (4, .int x4), (5, .int x5)] → W p l e (rmK 3 80) s m args below meth c H locs 0 0 (MQ below (Qv g A (gcM g zm om)) args s 0 0 A) (F0 m 61 ls [])) : ∀ (n : Nat) (Tm : Gp) (x1 : Int32) (x2 : Int32) (x4 : Int32) (x5 : Int32) (x6 : Int32) (x7 : Int32) (H : Heap) (locs : List Loc) (ls : Array Slot), lX11_layWorths_73 rec53 rec61 n Tm x1 x2 x4 x5 x6 x7 = some (om) → wl g A s.heap (gcM g zm Tm) H locs → lv_has ls 9 [(0, .ref (zm 0)), (1, .int x1), (2, .int x2), (4, .int x4), (5, .int x5), (6, .int x6), (7, .int x7)] → W p l e (rmK 3 80) s m args below meth c H locs 0 0 (MQ below (Qv g A (gcM g zm om)) args s 0 0 A) (F0 m 73 ls []) := by
  intro n
  induction n with
  | zero => intro _ _ _ _ _ _ _ _ _ _ hf; exact no_f hf
  | succ n ih => intro _ _ _ _ _ _ _ _ _ _ hf hw hl; exact kX11_layWorths_73 (zm := zm) (om := om) C hr53 hr61 (rec73 := lX11_layWorths_73 rec53 rec61 n) ih hf hw hl
set_option maxRecDepth 100000 in
set_option maxHeartbeats 4000000 in
theorem kX11_layWorths_61 {l : Launch} {g : evG} {p : Program} {e : Env} {s : State} {m : MethodId} {args : Array Value} {below : List Frame} {meth : Method} {c : Code} {A : Nat → Prop} {zm : Nat → Nat} {om : Gp} (C : ctx g p s m args meth c RX11 cX11_layWorths 9 none A) {rec53 : Gp → Int32 → Int32 → Int32 → Option (Gp)} {rec61 : Gp → Int32 → Int32 → Int32 → Int32 → Option (Gp)} (hr53 : ∀ (Tm : Gp) (x1 : Int32) (x2 : Int32) (x4 : Int32) (H : Heap) (locs : List Loc) (ls : Array Slot), rec53 Tm x1 x2 x4 = some (om) → wl g A s.heap (gcM g zm Tm) H locs → lv_has ls 9 [(0, .ref (zm 0)), (1, .int x1), (2, .int x2), (4, .int x4)] → W p l e (rmK 3 80) s m args below meth c H locs 0 0 (MQ below (Qv g A (gcM g zm om)) args s 0 0 A) (F0 m 53 ls [])) (hr61 : ∀ (Tm : Gp) (x1 : Int32) (x2 : Int32) (x4 : Int32) (x5 : Int32) (H : Heap) (locs : List Loc) (ls : Array Slot), rec61 Tm x1 x2 x4 x5 = some (om) → wl g A s.heap (gcM g zm Tm) H locs → lv_has ls 9 [(0, .ref (zm 0)), (1, .int x1), (2, .int x2), (4, .int x4), (5, .int x5)] → W p l e (rmK 3 80) s m args below meth c H locs 0 0 (MQ below (Qv g A (gcM g zm om)) args s 0 0 A) (F0 m 61 ls [])) {Tm : Gp} {x1 : Int32} {x2 : Int32} {x4 : Int32} {x5 : Int32} {H : Heap} {locs : List Loc} {ls : Array Slot} (hf : fX11_layWorths_61 rec53 rec61 Tm x1 x2 x4 x5 = some (om)) (hw : wl g A s.heap (gcM g zm Tm) H locs) (hl : lv_has ls 9 [(0, .ref (zm 0)), (1, .int x1), (2, .int x2), (4, .int x4), (5, .int x5)]) : W p l e (rmK 3 80) s m args below meth c H locs 0 0 (MQ below (Qv g A (gcM g zm om)) args s 0 0 A) (F0 m 61 ls []) := by
  obtain ⟨hx, hb, hml, hown, hts, -⟩ := id C
  unfold fX11_layWorths_61 at hf
  refine lv_iload hx hb dX11_layWorths_61 (lv_at hl 4 rfl) ?_
  refine lv_iload_n hx hb dX11_layWorths_63 rfl (lv_at hl 2 rfl) ?_
  refine lv_icmp_gt (tgt := 145) hx hb dX11_layWorths_64 (by decide) (fun hc1 => ?_) (fun hc1 => ?_)
  · have hf := it_p hf hc1
    refine lv_iinc (v := (x4 + (-1 : Int32))) (lv' := [(4, .int (x4 + (-1 : Int32))), (0, .ref (zm 0)), (1, .int x1), (2, .int x2), (5, .int x5)]) hx hb dX11_layWorths_145 hl (k := 3) rfl rfl (by decide) rfl (fun ls hl => ?_)
    refine lv_goto (tgt := 53) hx hb dX11_layWorths_148 (by decide) ?_
    exact hr53 _ _ _ _ _ _ _ hf hw (lv_sub hl [1, 2, 3, 0] rfl)
  · have hf := it_n hf hc1
    refine lv_iconst (v := (-1 : Int32)) hx hb dX11_layWorths_67 rfl ?_
    refine lv_istore (lv' := [(6, .int (-1 : Int32)), (0, .ref (zm 0)), (1, .int x1), (2, .int x2), (4, .int x4), (5, .int x5)]) hx hb dX11_layWorths_68 hl (by decide) rfl (fun ls hl => ?_)
    refine lv_iconst (v := (0 : Int32)) hx hb dX11_layWorths_70 rfl ?_
    refine lv_istore (lv' := [(7, .int (0 : Int32)), (6, .int (-1 : Int32)), (0, .ref (zm 0)), (1, .int x1), (2, .int x2), (4, .int x4), (5, .int x5)]) hx hb dX11_layWorths_71 hl (by decide) rfl (fun ls hl => ?_)
    exact klX11_layWorths_73 (zm := zm) (om := om) C hr53 hr61 fu _ _ _ _ _ _ _ _ _ _ hf hw (lv_sub hl [2, 3, 4, 5, 6, 1, 0] rfl)
set_option maxRecDepth 100000 in
set_option maxHeartbeats 4000000 in
theorem klX11_layWorths_61 {l : Launch} {g : evG} {p : Program} {e : Env} {s : State} {m : MethodId} {args : Array Value} {below : List Frame} {meth : Method} {c : Code} {A : Nat → Prop} {zm : Nat → Nat} {om : Gp} (C : ctx g p s m args meth c RX11 cX11_layWorths 9 none A) {rec53 : Gp → Int32 → Int32 → Int32 → Option (Gp)} (hr53 : ∀ (Tm : Gp) (x1 : Int32) (x2 : Int32) (x4 : Int32) (H : Heap) (locs : List Loc) (ls : Array Slot), rec53 Tm x1 x2 x4 = some (om) → wl g A s.heap (gcM g zm Tm) H locs → lv_has ls 9 [(0, .ref (zm 0)), (1, .int x1), (2, .int x2), (4, .int x4)] → W p l e (rmK 3 80) s m args below meth c H locs 0 0 (MQ below (Qv g A (gcM g zm om)) args s 0 0 A) (F0 m 53 ls [])) : ∀ (n : Nat) (Tm : Gp) (x1 : Int32) (x2 : Int32) (x4 : Int32) (x5 : Int32) (H : Heap) (locs : List Loc) (ls : Array Slot), lX11_layWorths_61 rec53 n Tm x1 x2 x4 x5 = some (om) → wl g A s.heap (gcM g zm Tm) H locs → lv_has ls 9 [(0, .ref (zm 0)), (1, .int x1), (2, .int x2), (4, .int x4), (5, .int x5)] → W p l e (rmK 3 80) s m args below meth c H locs 0 0 (MQ below (Qv g A (gcM g zm om)) args s 0 0 A) (F0 m 61 ls []) := by
  intro n
  induction n with
  | zero => intro _ _ _ _ _ _ _ _ hf; exact no_f hf
  | succ n ih => intro _ _ _ _ _ _ _ _ hf hw hl; exact kX11_layWorths_61 (zm := zm) (om := om) C hr53 (rec61 := lX11_layWorths_61 rec53 n) ih hf hw hl
set_option maxRecDepth 100000 in
set_option maxHeartbeats 4000000 in
theorem kX11_layWorths_53 {l : Launch} {g : evG} {p : Program} {e : Env} {s : State} {m : MethodId} {args : Array Value} {below : List Frame} {meth : Method} {c : Code} {A : Nat → Prop} {zm : Nat → Nat} {om : Gp} (C : ctx g p s m args meth c RX11 cX11_layWorths 9 none A) {rec53 : Gp → Int32 → Int32 → Int32 → Option (Gp)} (hr53 : ∀ (Tm : Gp) (x1 : Int32) (x2 : Int32) (x4 : Int32) (H : Heap) (locs : List Loc) (ls : Array Slot), rec53 Tm x1 x2 x4 = some (om) → wl g A s.heap (gcM g zm Tm) H locs → lv_has ls 9 [(0, .ref (zm 0)), (1, .int x1), (2, .int x2), (4, .int x4)] → W p l e (rmK 3 80) s m args below meth c H locs 0 0 (MQ below (Qv g A (gcM g zm om)) args s 0 0 A) (F0 m 53 ls [])) {Tm : Gp} {x1 : Int32} {x2 : Int32} {x4 : Int32} {H : Heap} {locs : List Loc} {ls : Array Slot} (hf : fX11_layWorths_53 rec53 Tm x1 x2 x4 = some (om)) (hw : wl g A s.heap (gcM g zm Tm) H locs) (hl : lv_has ls 9 [(0, .ref (zm 0)), (1, .int x1), (2, .int x2), (4, .int x4)]) : W p l e (rmK 3 80) s m args below meth c H locs 0 0 (MQ below (Qv g A (gcM g zm om)) args s 0 0 A) (F0 m 53 ls []) := by
  obtain ⟨hx, hb, hml, hown, hts, -⟩ := id C
  unfold fX11_layWorths_53 at hf
  refine lv_iload hx hb dX11_layWorths_53 (lv_at hl 3 rfl) ?_
  refine lv_if_lt (tgt := 151) hx hb dX11_layWorths_55 (by decide) (fun hc1 => ?_) (fun hc1 => ?_)
  · have hf := it_p hf hc1
    obtain rfl := so1 hf
    exact r_vret C hw dX11_layWorths_151
  · have hf := it_n hf hc1
    refine lv_iconst (v := (0 : Int32)) hx hb dX11_layWorths_58 rfl ?_
    refine lv_istore (lv' := [(5, .int (0 : Int32)), (0, .ref (zm 0)), (1, .int x1), (2, .int x2), (4, .int x4)]) hx hb dX11_layWorths_59 hl (by decide) rfl (fun ls hl => ?_)
    exact klX11_layWorths_61 (zm := zm) (om := om) C hr53 fu _ _ _ _ _ _ _ _ hf hw (lv_sub hl [1, 2, 3, 4, 0] rfl)
set_option maxRecDepth 100000 in
set_option maxHeartbeats 4000000 in
theorem klX11_layWorths_53 {l : Launch} {g : evG} {p : Program} {e : Env} {s : State} {m : MethodId} {args : Array Value} {below : List Frame} {meth : Method} {c : Code} {A : Nat → Prop} {zm : Nat → Nat} {om : Gp} (C : ctx g p s m args meth c RX11 cX11_layWorths 9 none A) : ∀ (n : Nat) (Tm : Gp) (x1 : Int32) (x2 : Int32) (x4 : Int32) (H : Heap) (locs : List Loc) (ls : Array Slot), lX11_layWorths_53 n Tm x1 x2 x4 = some (om) → wl g A s.heap (gcM g zm Tm) H locs → lv_has ls 9 [(0, .ref (zm 0)), (1, .int x1), (2, .int x2), (4, .int x4)] → W p l e (rmK 3 80) s m args below meth c H locs 0 0 (MQ below (Qv g A (gcM g zm om)) args s 0 0 A) (F0 m 53 ls []) := by
  intro n
  induction n with
  | zero => intro _ _ _ _ _ _ _ hf; exact no_f hf
  | succ n ih => intro _ _ _ _ _ _ _ hf hw hl; exact kX11_layWorths_53 (zm := zm) (om := om) C (rec53 := lX11_layWorths_53 n) ih hf hw hl
set_option maxRecDepth 100000 in
set_option maxHeartbeats 4000000 in
theorem kX11_layWorths_13 {l : Launch} {g : evG} {p : Program} {e : Env} {s : State} {m : MethodId} {args : Array Value} {below : List Frame} {meth : Method} {c : Code} {A : Nat → Prop} {zm : Nat → Nat} {om : Gp} (C : ctx g p s m args meth c RX11 cX11_layWorths 9 none A) {rec13 : Gp → Int32 → Int32 → Int32 → Int32 → Option (Gp)} (hr13 : ∀ (Tm : Gp) (x1 : Int32) (x2 : Int32) (x3 : Int32) (x4 : Int32) (H : Heap) (locs : List Loc) (ls : Array Slot), rec13 Tm x1 x2 x3 x4 = some (om) → wl g A s.heap (gcM g zm Tm) H locs → lv_has ls 9 [(0, .ref (zm 0)), (1, .int x1), (2, .int x2), (3, .int x3), (4, .int x4)] → W p l e (rmK 3 80) s m args below meth c H locs 0 0 (MQ below (Qv g A (gcM g zm om)) args s 0 0 A) (F0 m 13 ls [])) {Tm : Gp} {x1 : Int32} {x2 : Int32} {x3 : Int32} {x4 : Int32} {H : Heap} {locs : List Loc} {ls : Array Slot} (hf : fX11_layWorths_13 rec13 Tm x1 x2 x3 x4 = some (om)) (hw : wl g A s.heap (gcM g zm Tm) H locs) (hl : lv_has ls 9 [(0, .ref (zm 0)), (1, .int x1), (2, .int x2), (3, .int x3), (4, .int x4)]) : W p l e (rmK 3 80) s m args below meth c H locs 0 0 (MQ below (Qv g A (gcM g zm om)) args s 0 0 A) (F0 m 13 ls []) := by
  obtain ⟨hx, hb, hml, hown, hts, -⟩ := id C
  unfold fX11_layWorths_13 at hf
  refine lv_iload hx hb dX11_layWorths_13 (lv_at hl 4 rfl) ?_
  refine lv_iload_n hx hb dX11_layWorths_15 rfl (lv_at hl 2 rfl) ?_
  refine lv_icmp_gt (tgt := 48) hx hb dX11_layWorths_16 (by decide) (fun hc4 => ?_) (fun hc4 => ?_)
  · have hf := it_p hf hc4
    refine lv_iload_n hx hb dX11_layWorths_48 rfl (lv_at hl 3 rfl) ?_
    refine lv_iconst (v := (1 : Int32)) hx hb dX11_layWorths_49 rfl ?_
    refine lv_isub hx hb dX11_layWorths_50 ?_
    refine lv_istore (lv' := [(4, .int (x3 - (1 : Int32))), (0, .ref (zm 0)), (1, .int x1), (2, .int x2), (3, .int x3)]) hx hb dX11_layWorths_51 hl (by decide) rfl (fun ls hl => ?_)
    exact klX11_layWorths_53 (zm := zm) (om := om) C fu _ _ _ _ _ _ _ hf hw (lv_sub hl [1, 2, 3, 0] rfl)
  · have hf := it_n hf hc4
    refine lv_aload_n hx hb dX11_layWorths_19 rfl (lv_at hl 0 rfl) ?_
    refine r_get C hw 0 rfl cf_X11 19 (by decide) q4_192 (v := .ref (zm 9)) rfl dX11_layWorths_20 ?_
    refine lv_sipush (v := (201 : Int32)) hx hb dX11_layWorths_23 rfl ?_
    refine lv_iload_n hx hb dX11_layWorths_26 rfl (lv_at hl 3 rfl) ?_
    refine lv_imul hx hb dX11_layWorths_27 ?_
    refine lv_iload hx hb dX11_layWorths_28 (lv_at hl 4 rfl) ?_
    refine lv_iadd hx hb dX11_layWorths_30 ?_
    refine lv_iload hx hb dX11_layWorths_31 (lv_at hl 4 rfl) ?_
    refine lv_if_ne (tgt := 40) hx hb dX11_layWorths_33 (by decide) (fun hc3 => ?_) (fun hc3 => ?_)
    · have hf := it_n hf hc3
      refine lv_iconst (v := (-1 : Int32)) hx hb dX11_layWorths_40 rfl ?_
      obtain ⟨hi1, hf⟩ := it_g hf
      refine r_iast C hw 9 (f := (Tm 9)) rfl hi1 (ws' := (gcM g zm (u2 Tm 9 (((201 : Int32) * x3) + x4).toNatClampNeg (-1 : Int32)))) gcM_a9 dX11_layWorths_41 (fun H locs hw => ?_)
      refine lv_iinc (v := (x4 + (1 : Int32))) (lv' := [(4, .int (x4 + (1 : Int32))), (0, .ref (zm 0)), (1, .int x1), (2, .int x2), (3, .int x3)]) hx hb dX11_layWorths_42 hl (k := 4) rfl rfl (by decide) rfl (fun ls hl => ?_)
      refine lv_goto (tgt := 13) hx hb dX11_layWorths_45 (by decide) ?_
      exact hr13 _ _ _ _ _ _ _ _ hf hw (lv_sub hl [1, 2, 3, 4, 0] rfl)
    · have hf := it_p hf hc3
      refine lv_iconst (v := (0 : Int32)) hx hb dX11_layWorths_36 rfl ?_
      refine lv_goto (tgt := 41) hx hb dX11_layWorths_37 (by decide) ?_
      obtain ⟨hi2, hf⟩ := it_g hf
      refine r_iast C hw 9 (f := (Tm 9)) rfl hi2 (ws' := (gcM g zm (u2 Tm 9 (((201 : Int32) * x3) + x4).toNatClampNeg (0 : Int32)))) gcM_a9 dX11_layWorths_41 (fun H locs hw => ?_)
      refine lv_iinc (v := (x4 + (1 : Int32))) (lv' := [(4, .int (x4 + (1 : Int32))), (0, .ref (zm 0)), (1, .int x1), (2, .int x2), (3, .int x3)]) hx hb dX11_layWorths_42 hl (k := 4) rfl rfl (by decide) rfl (fun ls hl => ?_)
      refine lv_goto (tgt := 13) hx hb dX11_layWorths_45 (by decide) ?_
      exact hr13 _ _ _ _ _ _ _ _ hf hw (lv_sub hl [1, 2, 3, 4, 0] rfl)
set_option maxRecDepth 100000 in
set_option maxHeartbeats 4000000 in
theorem klX11_layWorths_13 {l : Launch} {g : evG} {p : Program} {e : Env} {s : State} {m : MethodId} {args : Array Value} {below : List Frame} {meth : Method} {c : Code} {A : Nat → Prop} {zm : Nat → Nat} {om : Gp} (C : ctx g p s m args meth c RX11 cX11_layWorths 9 none A) : ∀ (n : Nat) (Tm : Gp) (x1 : Int32) (x2 : Int32) (x3 : Int32) (x4 : Int32) (H : Heap) (locs : List Loc) (ls : Array Slot), lX11_layWorths_13 n Tm x1 x2 x3 x4 = some (om) → wl g A s.heap (gcM g zm Tm) H locs → lv_has ls 9 [(0, .ref (zm 0)), (1, .int x1), (2, .int x2), (3, .int x3), (4, .int x4)] → W p l e (rmK 3 80) s m args below meth c H locs 0 0 (MQ below (Qv g A (gcM g zm om)) args s 0 0 A) (F0 m 13 ls []) := by
  intro n
  induction n with
  | zero => intro _ _ _ _ _ _ _ _ hf; exact no_f hf
  | succ n ih => intro _ _ _ _ _ _ _ _ hf hw hl; exact kX11_layWorths_13 (zm := zm) (om := om) C (rec13 := lX11_layWorths_13 n) ih hf hw hl
set_option maxRecDepth 100000 in
set_option maxHeartbeats 4000000 in
theorem c_X11_layWorths {l : Launch} {g : evG} {zm : Nat → Nat} {om : Gp}  {Tm : Gp} {x1 : Int32} {x2 : Int32} (hf : fX11_layWorths Tm x1 x2 = some (om)) : CTv l g yX11_layWorths (Cond.code yX11_layWorths cX11_layWorths 9 none) 3 80 [.ref (zm 0), .int x1, .int x2] (gcM g zm Tm) (gcM g zm om) := by
  refine ct_v rfl (Nat.le_of_ble_eq_true rfl) ?_
  intro p e s m args below meth c A ls C hw hl
  have C : ctx g p s m args meth c RX11 cX11_layWorths 9 none A := C
  have hl : lv_has ls 9 [(0, .ref (zm 0)), (1, .int x1), (2, .int x2)] := hl
  obtain ⟨hx, hb, hml, hown, hts, -⟩ := id C
  unfold fX11_layWorths at hf
  refine lv_aload_n hx hb dX11_layWorths_0 rfl (lv_at hl 0 rfl) ?_
  refine r_get C hw 0 rfl cf_X11 6 (by decide) q4_179 (v := .int (Tm 0 6)) rfl dX11_layWorths_1 ?_
  refine lv_aload_n hx hb dX11_layWorths_4 rfl (lv_at hl 0 rfl) ?_
  refine r_get C hw 0 rfl cf_X11 7 (by decide) q4_180 (v := .int (Tm 0 7)) rfl dX11_layWorths_5 ?_
  refine lv_imul hx hb dX11_layWorths_8 ?_
  refine lv_istore_n (lv' := [(3, .int ((Tm 0 6) * (Tm 0 7))), (0, .ref (zm 0)), (1, .int x1), (2, .int x2)]) hx hb dX11_layWorths_9 rfl hl (by decide) rfl (fun ls hl => ?_)
  refine lv_iconst (v := (0 : Int32)) hx hb dX11_layWorths_10 rfl ?_
  refine lv_istore (lv' := [(4, .int (0 : Int32)), (3, .int ((Tm 0 6) * (Tm 0 7))), (0, .ref (zm 0)), (1, .int x1), (2, .int x2)]) hx hb dX11_layWorths_11 hl (by decide) rfl (fun ls hl => ?_)
  exact klX11_layWorths_13 (zm := zm) (om := om) C fu _ _ _ _ _ _ _ _ hf hw (lv_sub hl [2, 3, 4, 1, 0] rfl)
