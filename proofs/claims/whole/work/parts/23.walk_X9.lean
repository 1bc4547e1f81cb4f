set_option maxRecDepth 100000 in
set_option maxHeartbeats 4000000 in
theorem c_X9_meantOn {l : Launch} {g : evG} {zt : Nat → Nat} {r : Int32}  {Tt : Gp} {x1 : Int32} {x2 : Int32} {x3 : Int32} {x4 : Int32} (hf : fX9_meantOn Tt x1 x2 x3 x4 = some (r)) : CTi l g yX9_meantOn (Cond.code yX9_meantOn cX9_meantOn 6 (some .int)) 2 43 [.ref (zt 0), .int x1, .int x2, .int x3, .int x4] (gcT g zt Tt) (gcT g zt Tt) r := by
  refine ct_i rfl (Nat.le_of_ble_eq_true rfl) ?_
  intro p e s m args below meth c A ls C hw hl
  have C : ctx g p s m args meth c RX9 cX9_meantOn 6 (some .int) A := C
  have hl : lv_has ls 6 [(0, .ref (zt 0)), (1, .int x1), (2, .int x2), (3, .int x3), (4, .int x4)] := hl
  obtain ⟨hx, hb, hml, hown, hts, -⟩ := id C
  unfold fX9_meantOn at hf
  refine lv_iload_n hx hb dX9_meantOn_0 rfl (lv_at hl 1 rfl) ?_
  refine lv_bipush (v := (48 : Int32)) hx hb dX9_meantOn_1 rfl ?_
  refine lv_imul hx hb dX9_meantOn_3 ?_
  refine lv_iload_n hx hb dX9_meantOn_4 rfl (lv_at hl 2 rfl) ?_
  refine lv_iload_n hx hb dX9_meantOn_5 rfl (lv_at hl 3 rfl) ?_
  refine lv_iload hx hb dX9_meantOn_6 (lv_at hl 4 rfl) ?_
  obtain ⟨r1, hc2, hf⟩ := bd1_e hf
  refine r_callNi0 C hw (c_X10_slotIndex hc2) md_X10_slotIndex [] rfl rfl nq_32 ⟨Nat.le_of_ble_eq_true rfl, Nat.le_of_ble_eq_true rfl⟩ ⟨Nat.zero_le _, Nat.zero_le _⟩ hl.1 rfl rfl (Nat.le_of_ble_eq_true rfl) dX9_meantOn_8 (fun H locs hw => ?_)
  refine lv_iadd hx hb dX9_meantOn_11 ?_
  refine lv_istore (lv' := [(5, .int ((x1 * (48 : Int32)) + r1)), (0, .ref (zt 0)), (1, .int x1), (2, .int x2), (3, .int x3), (4, .int x4)]) hx hb dX9_meantOn_12 hl (by decide) rfl (fun ls hl => ?_)
  refine lv_iload hx hb dX9_meantOn_14 (lv_at hl 0 rfl) ?_
  refine lv_iconst (v := (0 : Int32)) hx hb dX9_meantOn_16 rfl ?_
  refine lv_aload_n hx hb dX9_meantOn_17 rfl (lv_at hl 1 rfl) ?_
  refine r_get C hw 0 rfl cf_X9 8 (by decide) q1_63 (v := .ref (zt 5)) rfl dX9_meantOn_18 ?_
  refine r_alen C hw 5 0 rfl rfl (v := (96 : Int32)) rfl dX9_meantOn_21 ?_
  refine lv_iconst (v := (1 : Int32)) hx hb dX9_meantOn_22 rfl ?_
  refine lv_isub hx hb dX9_meantOn_23 ?_
  obtain ⟨r3, hc4, hf⟩ := bd1_e hf
  refine r_callNi0 C hw (c_X10_within hc4) md_X10_within [] rfl rfl nq_30 ⟨Nat.le_of_ble_eq_true rfl, Nat.le_of_ble_eq_true rfl⟩ ⟨Nat.zero_le _, Nat.zero_le _⟩ hl.1 rfl rfl (Nat.le_of_ble_eq_true rfl) dX9_meantOn_24 (fun H locs hw => ?_)
  refine lv_if_eq (tgt := 40) hx hb dX9_meantOn_27 (by decide) (fun hc6 => ?_) (fun hc6 => ?_)
  · have hf := it_p hf hc6
    refine lv_iconst (v := (5 : Int32)) hx hb dX9_meantOn_40 rfl ?_
    obtain rfl := so1 hf
    exact r_iret C hw rfl dX9_meantOn_41
  · have hf := it_n hf hc6
    refine lv_aload_n hx hb dX9_meantOn_30 rfl (lv_at hl 1 rfl) ?_
    refine r_get C hw 0 rfl cf_X9 8 (by decide) q1_63 (v := .ref (zt 5)) rfl dX9_meantOn_31 ?_
    refine lv_iload hx hb dX9_meantOn_34 (lv_at hl 0 rfl) ?_
    obtain ⟨hi5, hf⟩ := it_g hf
    refine r_iald C hw 5 (f := (Tt 5)) rfl hi5 dX9_meantOn_36 ?_
    refine lv_goto (tgt := 41) hx hb dX9_meantOn_37 (by decide) ?_
    obtain rfl := so1 hf
    exact r_iret C hw rfl dX9_meantOn_41
set_option maxRecDepth 100000 in
set_option maxHeartbeats 4000000 in
theorem kX9_breadOf_23 {l : Launch} {g : evG} {p : Program} {e : Env} {s : State} {m : MethodId} {args : Array Value} {below : List Frame} {meth : Method} {c : Code} {A : Nat → Prop} {zt : Nat → Nat} {r : Int32} (C : ctx g p s m args meth c RX9 cX9_breadOf 4 (some .int) A) {Tt : Gp} {x1 : Int32} {x2 : Int32} {y0 : Int32} {H : Heap} {locs : List Loc} {ls : Array Slot} (hf : fX9_breadOf_23 Tt x1 x2 y0 = some (r)) (hw : wl g A s.heap (gcT g zt Tt) H locs) (hl : lv_has ls 4 [(0, .ref (zt 0)), (1, .int x1), (2, .int x2)]) : W p l e (rmK 0 0) s m args below meth c H locs 0 0 (MQ below (Qi g A (gcT g zt Tt) r) args s 0 0 A) (F0 m 23 ls [.int y0]) := by
  obtain ⟨hx, hb, hml, hown, hts, -⟩ := id C
  unfold fX9_breadOf_23 at hf
  refine lv_istore_n (lv' := [(3, .int y0), (0, .ref (zt 0)), (1, .int x1), (2, .int x2)]) hx hb dX9_breadOf_23 rfl hl (by decide) rfl (fun ls hl => ?_)
  refine lv_iload_n hx hb dX9_breadOf_24 rfl (lv_at hl 0 rfl) ?_
  refine lv_if_eq (tgt := 41) hx hb dX9_breadOf_25 (by decide) (fun hc2 => ?_) (fun hc2 => ?_)
  · have hf := it_p hf hc2
    refine lv_iconst (v := (0 : Int32)) hx hb dX9_breadOf_41 rfl ?_
    obtain rfl := so1 hf
    exact r_iret C hw rfl dX9_breadOf_42
  · have hf := it_n hf hc2
    refine lv_aload_n hx hb dX9_breadOf_28 rfl (lv_at hl 1 rfl) ?_
    refine r_get C hw 0 rfl cf_X9 6 (by decide) q1_61 (v := .ref (zt 3)) rfl dX9_breadOf_29 ?_
    refine lv_iload_n hx hb dX9_breadOf_32 rfl (lv_at hl 2 rfl) ?_
    refine lv_iconst (v := (5 : Int32)) hx hb dX9_breadOf_33 rfl ?_
    refine lv_imul hx hb dX9_breadOf_34 ?_
    refine lv_iload_n hx hb dX9_breadOf_35 rfl (lv_at hl 3 rfl) ?_
    refine lv_iadd hx hb dX9_breadOf_36 ?_
    obtain ⟨hi1, hf⟩ := it_g hf
    refine r_iald C hw 3 (f := (Tt 3)) rfl hi1 dX9_breadOf_37 ?_
    refine lv_goto (tgt := 42) hx hb dX9_breadOf_38 (by decide) ?_
    obtain rfl := so1 hf
    exact r_iret C hw rfl dX9_breadOf_42
set_option maxRecDepth 100000 in
set_option maxHeartbeats 4000000 in
theorem kX9_breadOf_22 {l : Launch} {g : evG} {p : Program} {e : Env} {s : State} {m : MethodId} {args : Array Value} {below : List Frame} {meth : Method} {c : Code} {A : Nat → Prop} {zt : Nat → Nat} {r : Int32} (C : ctx g p s m args meth c RX9 cX9_breadOf 4 (some .int) A) {Tt : Gp} {x1 : Int32} {x2 : Int32} {H : Heap} {locs : List Loc} {ls : Array Slot} (hf : fX9_breadOf_22 Tt x1 x2 = some (r)) (hw : wl g A s.heap (gcT g zt Tt) H locs) (hl : lv_has ls 4 [(0, .ref (zt 0)), (1, .int x1), (2, .int x2)]) : W p l e (rmK 0 0) s m args below meth c H locs 0 0 (MQ below (Qi g A (gcT g zt Tt) r) args s 0 0 A) (F0 m 22 ls []) := by
  obtain ⟨hx, hb, hml, hown, hts, -⟩ := id C
  unfold fX9_breadOf_22 at hf
  refine lv_iconst (v := (0 : Int32)) hx hb dX9_breadOf_22 rfl ?_
  exact kX9_breadOf_23 (zt := zt) (r := r) C hf hw (lv_sub hl [0, 1, 2] rfl)
set_option maxRecDepth 100000 in
set_option maxHeartbeats 4000000 in
theorem c_X9_breadOf {l : Launch} {g : evG} {zt : Nat → Nat} {r : Int32}  {Tt : Gp} {x1 : Int32} {x2 : Int32} (hf : fX9_breadOf Tt x1 x2 = some (r)) : CTi l g yX9_breadOf (Cond.code yX9_breadOf cX9_breadOf 4 (some .int)) 0 0 [.ref (zt 0), .int x1, .int x2] (gcT g zt Tt) (gcT g zt Tt) r := by
  refine ct_i rfl (Nat.le_of_ble_eq_true rfl) ?_
  intro p e s m args below meth c A ls C hw hl
  have C : ctx g p s m args meth c RX9 cX9_breadOf 4 (some .int) A := C
  have hl : lv_has ls 4 [(0, .ref (zt 0)), (1, .int x1), (2, .int x2)] := hl
  obtain ⟨hx, hb, hml, hown, hts, -⟩ := id C
  unfold fX9_breadOf at hf
  refine lv_iload_n hx hb dX9_breadOf_0 rfl (lv_at hl 1 rfl) ?_
  refine lv_if_lt (tgt := 22) hx hb dX9_breadOf_1 (by decide) (fun hc4 => ?_) (fun hc4 => ?_)
  · have hf := it_p hf hc4
    exact kX9_breadOf_22 (zt := zt) (r := r) C hf hw (lv_sub hl [0, 1, 2] rfl)
  · have hf := it_n hf hc4
    refine lv_iload_n hx hb dX9_breadOf_4 rfl (lv_at hl 1 rfl) ?_
    refine lv_iconst (v := (2 : Int32)) hx hb dX9_breadOf_5 rfl ?_
    refine lv_icmp_ge (tgt := 22) hx hb dX9_breadOf_6 (by decide) (fun hc3 => ?_) (fun hc3 => ?_)
    · have hf := it_p hf hc3
      exact kX9_breadOf_22 (zt := zt) (r := r) C hf hw (lv_sub hl [0, 1, 2] rfl)
    · have hf := it_n hf hc3
      refine lv_iload_n hx hb dX9_breadOf_9 rfl (lv_at hl 2 rfl) ?_
      refine lv_if_lt (tgt := 22) hx hb dX9_breadOf_10 (by decide) (fun hc2 => ?_) (fun hc2 => ?_)
      · have hf := it_p hf hc2
        exact kX9_breadOf_22 (zt := zt) (r := r) C hf hw (lv_sub hl [0, 1, 2] rfl)
      · have hf := it_n hf hc2
        refine lv_iload_n hx hb dX9_breadOf_13 rfl (lv_at hl 2 rfl) ?_
        refine lv_iconst (v := (5 : Int32)) hx hb dX9_breadOf_14 rfl ?_
        refine lv_icmp_ge (tgt := 22) hx hb dX9_breadOf_15 (by decide) (fun hc1 => ?_) (fun hc1 => ?_)
        · have hf := it_p hf hc1
          exact kX9_breadOf_22 (zt := zt) (r := r) C hf hw (lv_sub hl [0, 1, 2] rfl)
        · have hf := it_n hf hc1
          refine lv_iconst (v := (1 : Int32)) hx hb dX9_breadOf_18 rfl ?_
          refine lv_goto (tgt := 23) hx hb dX9_breadOf_19 (by decide) ?_
          exact kX9_breadOf_23 (zt := zt) (r := r) C hf hw (lv_sub hl [0, 1, 2] rfl)
set_option maxRecDepth 100000 in
set_option maxHeartbeats 4000000 in
theorem c_X9_classOf {l : Launch} {g : evG} {zt : Nat → Nat} {r : Int32}  {Tt : Gp} {x1 : Int32} (hf : fX9_classOf Tt x1 = some (r)) : CTi l g yX9_classOf (Cond.code yX9_classOf cX9_classOf 2 (some .int)) 0 0 [.ref (zt 0), .int x1] (gcT g zt Tt) (gcT g zt Tt) r := by
  refine ct_i rfl (Nat.le_of_ble_eq_true rfl) ?_
  intro p e s m args below meth c A ls C hw hl
  have C : ctx g p s m args meth c RX9 cX9_classOf 2 (some .int) A := C
  have hl : lv_has ls 2 [(0, .ref (zt 0)), (1, .int x1)] := hl
  obtain ⟨hx, hb, hml, hown, hts, -⟩ := id C
  unfold fX9_classOf at hf
  refine lv_iload_n hx hb dX9_classOf_0 rfl (lv_at hl 1 rfl) ?_
  refine lv_if_lt (tgt := 18) hx hb dX9_classOf_1 (by decide) (fun hc3 => ?_) (fun hc3 => ?_)
  · have hf := it_p hf hc3
    refine lv_iconst (v := (4 : Int32)) hx hb dX9_classOf_18 rfl ?_
    obtain rfl := so1 hf
    exact r_iret C hw rfl dX9_classOf_19
  · have hf := it_n hf hc3
    refine lv_iload_n hx hb dX9_classOf_4 rfl (lv_at hl 1 rfl) ?_
    refine lv_iconst (v := (5 : Int32)) hx hb dX9_classOf_5 rfl ?_
    refine lv_icmp_ge (tgt := 18) hx hb dX9_classOf_6 (by decide) (fun hc2 => ?_) (fun hc2 => ?_)
    · have hf := it_p hf hc2
      refine lv_iconst (v := (4 : Int32)) hx hb dX9_classOf_18 rfl ?_
      obtain rfl := so1 hf
      exact r_iret C hw rfl dX9_classOf_19
    · have hf := it_n hf hc2
      refine lv_aload_n hx hb dX9_classOf_9 rfl (lv_at hl 0 rfl) ?_
      refine r_get C hw 0 rfl cf_X9 5 (by decide) q1_60 (v := .ref (zt 2)) rfl dX9_classOf_10 ?_
      refine lv_iload_n hx hb dX9_classOf_13 rfl (lv_at hl 1 rfl) ?_
      obtain ⟨hi1, hf⟩ := it_g hf
      refine r_iald C hw 2 (f := (Tt 2)) rfl hi1 dX9_classOf_14 ?_
      refine lv_goto (tgt := 19) hx hb dX9_classOf_15 (by decide) ?_
      obtain rfl := so1 hf
      exact r_iret C hw rfl dX9_classOf_19
set_option maxRecDepth 100000 in
set_option maxHeartbeats 4000000 in
theorem c_X9_kindOf {l : Launch} {g : evG} {zt : Nat → Nat} {r : Int32}  {Tt : Gp} {x1 : Int32} (hf : fX9_kindOf Tt x1 = some (r)) : CTi l g yX9_kindOf (Cond.code yX9_kindOf cX9_kindOf 2 (some .int)) 0 0 [.ref (zt 0), .int x1] (gcT g zt Tt) (gcT g zt Tt) r := by
  refine ct_i rfl (Nat.le_of_ble_eq_true rfl) ?_
  intro p e s m args below meth c A ls C hw hl
  have C : ctx g p s m args meth c RX9 cX9_kindOf 2 (some .int) A := C
  have hl : lv_has ls 2 [(0, .ref (zt 0)), (1, .int x1)] := hl
  obtain ⟨hx, hb, hml, hown, hts, -⟩ := id C
  unfold fX9_kindOf at hf
  refine lv_iload_n hx hb dX9_kindOf_0 rfl (lv_at hl 1 rfl) ?_
  refine lv_if_lt (tgt := 27) hx hb dX9_kindOf_1 (by decide) (fun hc4 => ?_) (fun hc4 => ?_)
  · have hf := it_p hf hc4
    refine lv_iconst (v := (-1 : Int32)) hx hb dX9_kindOf_27 rfl ?_
    obtain rfl := so1 hf
    exact r_iret C hw rfl dX9_kindOf_28
  · have hf := it_n hf hc4
    refine lv_iload_n hx hb dX9_kindOf_4 rfl (lv_at hl 1 rfl) ?_
    refine lv_aload_n hx hb dX9_kindOf_5 rfl (lv_at hl 0 rfl) ?_
    refine r_get C hw 0 rfl cf_X9 0 (by decide) q1_41 (v := .int (Tt 0 0)) rfl dX9_kindOf_6 ?_
    refine lv_icmp_ge (tgt := 27) hx hb dX9_kindOf_9 (by decide) (fun hc3 => ?_) (fun hc3 => ?_)
    · have hf := it_p hf hc3
      refine lv_iconst (v := (-1 : Int32)) hx hb dX9_kindOf_27 rfl ?_
      obtain rfl := so1 hf
      exact r_iret C hw rfl dX9_kindOf_28
    · have hf := it_n hf hc3
      refine lv_iload_n hx hb dX9_kindOf_12 rfl (lv_at hl 1 rfl) ?_
      refine lv_bipush (v := (6 : Int32)) hx hb dX9_kindOf_13 rfl ?_
      refine lv_icmp_ge (tgt := 27) hx hb dX9_kindOf_15 (by decide) (fun hc2 => ?_) (fun hc2 => ?_)
      · have hf := it_p hf hc2
        refine lv_iconst (v := (-1 : Int32)) hx hb dX9_kindOf_27 rfl ?_
        obtain rfl := so1 hf
        exact r_iret C hw rfl dX9_kindOf_28
      · have hf := it_n hf hc2
        refine lv_aload_n hx hb dX9_kindOf_18 rfl (lv_at hl 0 rfl) ?_
        refine r_get C hw 0 rfl cf_X9 4 (by decide) q1_59 (v := .ref (zt 1)) rfl dX9_kindOf_19 ?_
        refine lv_iload_n hx hb dX9_kindOf_22 rfl (lv_at hl 1 rfl) ?_
        obtain ⟨hi1, hf⟩ := it_g hf
        refine r_iald C hw 1 (f := (Tt 1)) rfl hi1 dX9_kindOf_23 ?_
        refine lv_goto (tgt := 28) hx hb dX9_kindOf_24 (by decide) ?_
        obtain rfl := so1 hf
        exact r_iret C hw rfl dX9_kindOf_28
set_option maxRecDepth 100000 in
set_option maxHeartbeats 4000000 in
theorem kX9_mayDo_46 {l : Launch} {g : evG} {p : Program} {e : Env} {s : State} {m : MethodId} {args : Array Value} {below : List Frame} {meth : Method} {c : Code} {A : Nat → Prop} {zt : Nat → Nat} {r : Int32} (C : ctx g p s m args meth c RX9 cX9_mayDo 6 (some .boolean) A) {Tt : Gp} {x3 : Int32} {x5 : Int32} {H : Heap} {locs : List Loc} {ls : Array Slot} (hf : fX9_mayDo_46 Tt x3 x5 = some (r)) (hw : wl g A s.heap (gcT g zt Tt) H locs) (hl : lv_has ls 6 [(0, .ref (zt 0)), (3, .int x3), (5, .int x5)]) : W p l e (rmK 1 23) s m args below meth c H locs 0 0 (MQ below (Qi g A (gcT g zt Tt) r) args s 0 0 A) (F0 m 46 ls []) := by
  obtain ⟨hx, hb, hml, hown, hts, -⟩ := id C
  unfold fX9_mayDo_46 at hf
  refine lv_iload hx hb dX9_mayDo_46 (lv_at hl 2 rfl) ?_
  refine lv_iconst (v := (2 : Int32)) hx hb dX9_mayDo_48 rfl ?_
  refine lv_icmp_ne (tgt := 70) hx hb dX9_mayDo_49 (by decide) (fun hc3 => ?_) (fun hc3 => ?_)
  · have hf := it_n hf hc3
    refine lv_iconst (v := (1 : Int32)) hx hb dX9_mayDo_70 rfl ?_
    refine lv_goto (tgt := 75) hx hb dX9_mayDo_71 (by decide) ?_
    obtain rfl := so1 hf
    exact r_zret C hw rfl rfl dX9_mayDo_75
  · have hf := it_p hf hc3
    refine lv_aload_n hx hb dX9_mayDo_52 rfl (lv_at hl 0 rfl) ?_
    refine r_get C hw 0 rfl cf_X9 1 (by decide) q1_46 (v := .int (Tt 0 1)) rfl dX9_mayDo_53 ?_
    refine lv_iconst (v := (2 : Int32)) hx hb dX9_mayDo_56 rfl ?_
    refine lv_icmp_lt (tgt := 70) hx hb dX9_mayDo_57 (by decide) (fun hc2 => ?_) (fun hc2 => ?_)
    · have hf := it_p hf hc2
      refine lv_iconst (v := (1 : Int32)) hx hb dX9_mayDo_70 rfl ?_
      refine lv_goto (tgt := 75) hx hb dX9_mayDo_71 (by decide) ?_
      obtain rfl := so1 hf
      exact r_zret C hw rfl rfl dX9_mayDo_75
    · have hf := it_n hf hc2
      refine lv_iload_n hx hb dX9_mayDo_60 rfl (lv_at hl 1 rfl) ?_
      refine lv_aload_n hx hb dX9_mayDo_61 rfl (lv_at hl 0 rfl) ?_
      refine r_get C hw 0 rfl cf_X9 1 (by decide) q1_46 (v := .int (Tt 0 1)) rfl dX9_mayDo_62 ?_
      refine lv_iconst (v := (1 : Int32)) hx hb dX9_mayDo_65 rfl ?_
      refine lv_isub hx hb dX9_mayDo_66 ?_
      refine lv_icmp_eq (tgt := 74) hx hb dX9_mayDo_67 (by decide) (fun hc1 => ?_) (fun hc1 => ?_)
      · have hf := it_p hf hc1
        refine lv_iconst (v := (0 : Int32)) hx hb dX9_mayDo_74 rfl ?_
        obtain rfl := so1 hf
        exact r_zret C hw rfl rfl dX9_mayDo_75
      · have hf := it_n hf hc1
        refine lv_iconst (v := (1 : Int32)) hx hb dX9_mayDo_70 rfl ?_
        refine lv_goto (tgt := 75) hx hb dX9_mayDo_71 (by decide) ?_
        obtain rfl := so1 hf
        exact r_zret C hw rfl rfl dX9_mayDo_75
set_option maxRecDepth 100000 in
set_option maxHeartbeats 4000000 in
theorem c_X9_mayDo {l : Launch} {g : evG} {zt : Nat → Nat} {r : Int32}  {Tt : Gp} {x1 : Int32} {x2 : Int32} {x3 : Int32} {x4 : Int32} (hf : fX9_mayDo Tt x1 x2 x3 x4 = some (r)) : CTi l g yX9_mayDo (Cond.code yX9_mayDo cX9_mayDo 6 (some .boolean)) 1 23 [.ref (zt 0), .int x1, .int x2, .int x3, .int x4] (gcT g zt Tt) (gcT g zt Tt) r := by
  refine ct_i rfl (Nat.le_of_ble_eq_true rfl) ?_
  intro p e s m args below meth c A ls C hw hl
  have C : ctx g p s m args meth c RX9 cX9_mayDo 6 (some .boolean) A := C
  have hl : lv_has ls 6 [(0, .ref (zt 0)), (1, .int x1), (2, .int x2), (3, .int x3), (4, .int x4)] := hl
  obtain ⟨hx, hb, hml, hown, hts, -⟩ := id C
  unfold fX9_mayDo at hf
  refine lv_iload hx hb dX9_mayDo_0 (lv_at hl 4 rfl) ?_
  refine lv_iconst (v := (5 : Int32)) hx hb dX9_mayDo_2 rfl ?_
  refine lv_icmp_ne (tgt := 8) hx hb dX9_mayDo_3 (by decide) (fun hc10 => ?_) (fun hc10 => ?_)
  · have hf := it_n hf hc10
    refine lv_aload_n hx hb dX9_mayDo_8 rfl (lv_at hl 0 rfl) ?_
    refine lv_iload_n hx hb dX9_mayDo_9 rfl (lv_at hl 1 rfl) ?_
    refine lv_iload hx hb dX9_mayDo_10 (lv_at hl 4 rfl) ?_
    obtain ⟨r1, hc2, hf⟩ := bd1_e hf
    refine r_callVi0 C hw (c_X9_breadOf (zt := zt) hc2) md_X9_breadOf [0, 1, 2, 3, 4, 5] rfl rfl q2_200 0 rfl cf_X9.1 ⟨Nat.le_of_ble_eq_true rfl, Nat.le_of_ble_eq_true rfl⟩ ⟨Nat.zero_le _, Nat.zero_le _⟩ hl.1 rfl rfl (Nat.le_of_ble_eq_true rfl) dX9_mayDo_12 (fun H locs hw => ?_)
    refine lv_iconst (v := (-1 : Int32)) hx hb dX9_mayDo_15 rfl ?_
    refine lv_icmp_ne (tgt := 21) hx hb dX9_mayDo_16 (by decide) (fun hc9 => ?_) (fun hc9 => ?_)
    · have hf := it_n hf hc9
      refine lv_aload_n hx hb dX9_mayDo_21 rfl (lv_at hl 0 rfl) ?_
      refine lv_iload_n hx hb dX9_mayDo_22 rfl (lv_at hl 2 rfl) ?_
      obtain ⟨r3, hc4, hf⟩ := bd1_e hf
      refine r_callVi0 C hw (c_X9_kindOf (zt := zt) hc4) md_X9_kindOf [0, 1, 2, 3, 4, 5] rfl rfl q3_94 0 rfl cf_X9.1 ⟨Nat.le_of_ble_eq_true rfl, Nat.le_of_ble_eq_true rfl⟩ ⟨Nat.zero_le _, Nat.zero_le _⟩ hl.1 rfl rfl (Nat.le_of_ble_eq_true rfl) dX9_mayDo_23 (fun H locs hw => ?_)
      refine lv_istore (lv' := [(5, .int r3), (0, .ref (zt 0)), (1, .int x1), (2, .int x2), (3, .int x3), (4, .int x4)]) hx hb dX9_mayDo_26 hl (by decide) rfl (fun ls hl => ?_)
      refine lv_iload hx hb dX9_mayDo_28 (lv_at hl 0 rfl) ?_
      refine lv_iconst (v := (1 : Int32)) hx hb dX9_mayDo_30 rfl ?_
      refine lv_icmp_ne (tgt := 46) hx hb dX9_mayDo_31 (by decide) (fun hc8 => ?_) (fun hc8 => ?_)
      · have hf := it_n hf hc8
        exact kX9_mayDo_46 (zt := zt) (r := r) C hf hw (lv_sub hl [1, 4, 0] rfl)
      · have hf := it_p hf hc8
        refine lv_aload_n hx hb dX9_mayDo_34 rfl (lv_at hl 1 rfl) ?_
        refine lv_iload hx hb dX9_mayDo_35 (lv_at hl 5 rfl) ?_
        obtain ⟨r5, hc6, hf⟩ := bd1_e hf
        refine r_callVi0 C hw (c_X9_classOf (zt := zt) hc6) md_X9_classOf [0, 1, 2, 3, 4, 5] rfl rfl q3_98 0 rfl cf_X9.1 ⟨Nat.le_of_ble_eq_true rfl, Nat.le_of_ble_eq_true rfl⟩ ⟨Nat.zero_le _, Nat.zero_le _⟩ hl.1 rfl rfl (Nat.le_of_ble_eq_true rfl) dX9_mayDo_37 (fun H locs hw => ?_)
        refine lv_iconst (v := (3 : Int32)) hx hb dX9_mayDo_40 rfl ?_
        refine lv_icmp_ne (tgt := 46) hx hb dX9_mayDo_41 (by decide) (fun hc7 => ?_) (fun hc7 => ?_)
        · have hf := it_n hf hc7
          exact kX9_mayDo_46 (zt := zt) (r := r) C hf hw (lv_sub hl [1, 4, 0] rfl)
        · have hf := it_p hf hc7
          refine lv_iconst (v := (0 : Int32)) hx hb dX9_mayDo_44 rfl ?_
          obtain rfl := so1 hf
          exact r_zret C hw rfl rfl dX9_mayDo_45
    · have hf := it_p hf hc9
      refine lv_iconst (v := (0 : Int32)) hx hb dX9_mayDo_19 rfl ?_
      obtain rfl := so1 hf
      exact r_zret C hw rfl rfl dX9_mayDo_20
  · have hf := it_p hf hc10
    refine lv_iconst (v := (1 : Int32)) hx hb dX9_mayDo_6 rfl ?_
    obtain rfl := so1 hf
    exact r_zret C hw rfl rfl dX9_mayDo_7
set_option maxRecDepth 100000 in
set_option maxHeartbeats 4000000 in
theorem kX9_keepsTreaty_30 {l : Launch} {g : evG} {p : Program} {e : Env} {s : State} {m : MethodId} {args : Array Value} {below : List Frame} {meth : Method} {c : Code} {A : Nat → Prop} {zt : Nat → Nat} {r : Int32} (C : ctx g p s m args meth c RX9 cX9_keepsTreaty 6 (some .boolean) A) {Tt : Gp} {x1 : Int32} {y0 : Int32} {H : Heap} {locs : List Loc} {ls : Array Slot} (hf : fX9_keepsTreaty_30 Tt x1 y0 = some (r)) (hw : wl g A s.heap (gcT g zt Tt) H locs) (hl : lv_has ls 6 [(1, .int x1)]) : W p l e (rmK 1 21) s m args below meth c H locs 0 0 (MQ below (Qi g A (gcT g zt Tt) r) args s 0 0 A) (F0 m 30 ls [.int y0]) := by
  obtain ⟨hx, hb, hml, hown, hts, -⟩ := id C
  unfold fX9_keepsTreaty_30 at hf
  refine lv_istore (lv' := [(5, .int y0), (1, .int x1)]) hx hb dX9_keepsTreaty_30 hl (by decide) rfl (fun ls hl => ?_)
  refine lv_iload hx hb dX9_keepsTreaty_32 (lv_at hl 0 rfl) ?_
  refine lv_iload_n hx hb dX9_keepsTreaty_34 rfl (lv_at hl 1 rfl) ?_
  refine lv_if_ne (tgt := 42) hx hb dX9_keepsTreaty_35 (by decide) (fun hc3 => ?_) (fun hc3 => ?_)
  · have hf := it_n hf hc3
    refine lv_iconst (v := (0 : Int32)) hx hb dX9_keepsTreaty_42 rfl ?_
    refine lv_icmp_ne (tgt := 50) hx hb dX9_keepsTreaty_43 (by decide) (fun hc1 => ?_) (fun hc1 => ?_)
    · have hf := it_n hf hc1
      refine lv_iconst (v := (0 : Int32)) hx hb dX9_keepsTreaty_50 rfl ?_
      obtain rfl := so1 hf
      exact r_zret C hw rfl rfl dX9_keepsTreaty_51
    · have hf := it_p hf hc1
      refine lv_iconst (v := (1 : Int32)) hx hb dX9_keepsTreaty_46 rfl ?_
      refine lv_goto (tgt := 51) hx hb dX9_keepsTreaty_47 (by decide) ?_
      obtain rfl := so1 hf
      exact r_zret C hw rfl rfl dX9_keepsTreaty_51
  · have hf := it_p hf hc3
    refine lv_iconst (v := (1 : Int32)) hx hb dX9_keepsTreaty_38 rfl ?_
    refine lv_goto (tgt := 43) hx hb dX9_keepsTreaty_39 (by decide) ?_
    refine lv_icmp_ne (tgt := 50) hx hb dX9_keepsTreaty_43 (by decide) (fun hc2 => ?_) (fun hc2 => ?_)
    · have hf := it_n hf hc2
      refine lv_iconst (v := (0 : Int32)) hx hb dX9_keepsTreaty_50 rfl ?_
      obtain rfl := so1 hf
      exact r_zret C hw rfl rfl dX9_keepsTreaty_51
    · have hf := it_p hf hc2
      refine lv_iconst (v := (1 : Int32)) hx hb dX9_keepsTreaty_46 rfl ?_
      refine lv_goto (tgt := 51) hx hb dX9_keepsTreaty_47 (by decide) ?_
      obtain rfl := so1 hf
      exact r_zret C hw rfl rfl dX9_keepsTreaty_51
set_option maxRecDepth 100000 in
set_option maxHeartbeats 4000000 in
theorem c_X9_keepsTreaty {l : Launch} {g : evG} {zt : Nat → Nat} {r : Int32}  {Tt : Gp} {x1 : Int32} {x2 : Int32} {x3 : Int32} {x4 : Int32} (hf : fX9_keepsTreaty Tt x1 x2 x3 x4 = some (r)) : CTi l g yX9_keepsTreaty (Cond.code yX9_keepsTreaty cX9_keepsTreaty 6 (some .boolean)) 1 21 [.ref (zt 0), .int x1, .int x2, .int x3, .int x4] (gcT g zt Tt) (gcT g zt Tt) r := by
  refine ct_i rfl (Nat.le_of_ble_eq_true rfl) ?_
  intro p e s m args below meth c A ls C hw hl
  have C : ctx g p s m args meth c RX9 cX9_keepsTreaty 6 (some .boolean) A := C
  have hl : lv_has ls 6 [(0, .ref (zt 0)), (1, .int x1), (2, .int x2), (3, .int x3), (4, .int x4)] := hl
  obtain ⟨hx, hb, hml, hown, hts, -⟩ := id C
  unfold fX9_keepsTreaty at hf
  refine lv_aload_n hx hb dX9_keepsTreaty_0 rfl (lv_at hl 0 rfl) ?_
  refine lv_iload_n hx hb dX9_keepsTreaty_1 rfl (lv_at hl 2 rfl) ?_
  obtain ⟨r1, hc2, hf⟩ := bd1_e hf
  refine r_callVi0 C hw (c_X9_kindOf (zt := zt) hc2) md_X9_kindOf [0, 1, 2, 3, 4, 5] rfl rfl q3_94 0 rfl cf_X9.1 ⟨Nat.le_of_ble_eq_true rfl, Nat.le_of_ble_eq_true rfl⟩ ⟨Nat.zero_le _, Nat.zero_le _⟩ hl.1 rfl rfl (Nat.le_of_ble_eq_true rfl) dX9_keepsTreaty_2 (fun H locs hw => ?_)
  refine lv_iconst (v := (3 : Int32)) hx hb dX9_keepsTreaty_5 rfl ?_
  refine lv_icmp_ne (tgt := 11) hx hb dX9_keepsTreaty_6 (by decide) (fun hc8 => ?_) (fun hc8 => ?_)
  · have hf := it_n hf hc8
    refine lv_aload_n hx hb dX9_keepsTreaty_11 rfl (lv_at hl 0 rfl) ?_
    refine lv_iload_n hx hb dX9_keepsTreaty_12 rfl (lv_at hl 3 rfl) ?_
    obtain ⟨r3, hc4, hf⟩ := bd1_e hf
    refine r_callVi0 C hw (c_X9_classOf (zt := zt) hc4) md_X9_classOf [0, 1, 2, 3, 4, 5] rfl rfl q3_98 0 rfl cf_X9.1 ⟨Nat.le_of_ble_eq_true rfl, Nat.le_of_ble_eq_true rfl⟩ ⟨Nat.zero_le _, Nat.zero_le _⟩ hl.1 rfl rfl (Nat.le_of_ble_eq_true rfl) dX9_keepsTreaty_13 (fun H locs hw => ?_)
    refine lv_aload_n hx hb dX9_keepsTreaty_16 rfl (lv_at hl 0 rfl) ?_
    refine lv_iload hx hb dX9_keepsTreaty_17 (lv_at hl 4 rfl) ?_
    obtain ⟨r5, hc6, hf⟩ := bd1_e hf
    refine r_callVi0 C hw (c_X9_classOf (zt := zt) hc6) md_X9_classOf [0, 1, 2, 3, 4, 5] rfl rfl q3_98 0 rfl cf_X9.1 ⟨Nat.le_of_ble_eq_true rfl, Nat.le_of_ble_eq_true rfl⟩ ⟨Nat.zero_le _, Nat.zero_le _⟩ hl.1 rfl rfl (Nat.le_of_ble_eq_true rfl) dX9_keepsTreaty_19 (fun H locs hw => ?_)
    refine lv_icmp_ne (tgt := 29) hx hb dX9_keepsTreaty_22 (by decide) (fun hc7 => ?_) (fun hc7 => ?_)
    · have hf := it_n hf hc7
      refine lv_iconst (v := (0 : Int32)) hx hb dX9_keepsTreaty_29 rfl ?_
      exact kX9_keepsTreaty_30 (zt := zt) (r := r) C hf hw (lv_sub hl [1] rfl)
    · have hf := it_p hf hc7
      refine lv_iconst (v := (1 : Int32)) hx hb dX9_keepsTreaty_25 rfl ?_
      refine lv_goto (tgt := 30) hx hb dX9_keepsTreaty_26 (by decide) ?_
      exact kX9_keepsTreaty_30 (zt := zt) (r := r) C hf hw (lv_sub hl [1] rfl)
  · have hf := it_p hf hc8
    refine lv_iconst (v := (1 : Int32)) hx hb dX9_keepsTreaty_9 rfl ?_
    obtain rfl := so1 hf
    exact r_zret C hw rfl rfl dX9_keepsTreaty_10
set_option maxRecDepth 100000 in
set_option maxHeartbeats 4000000 in
theorem c_X9_breadMade {l : Launch} {g : evG} {zt : Nat → Nat} {r : Int32}  {Tt : Gp} {x1 : Int32} {x2 : Int32} {x3 : Int32} (hf : fX9_breadMade Tt x1 x2 x3 = some (r)) : CTi l g yX9_breadMade (Cond.code yX9_breadMade cX9_breadMade 5 (some .int)) 1 23 [.ref (zt 0), .int x1, .int x2, .int x3] (gcT g zt Tt) (gcT g zt Tt) r := by
  refine ct_i rfl (Nat.le_of_ble_eq_true rfl) ?_
  intro p e s m args below meth c A ls C hw hl
  have C : ctx g p s m args meth c RX9 cX9_breadMade 5 (some .int) A := C
  have hl : lv_has ls 5 [(0, .ref (zt 0)), (1, .int x1), (2, .int x2), (3, .int x3)] := hl
  obtain ⟨hx, hb, hml, hown, hts, -⟩ := id C
  unfold fX9_breadMade at hf
  refine lv_aload_n hx hb dX9_breadMade_0 rfl (lv_at hl 0 rfl) ?_
  refine lv_iload_n hx hb dX9_breadMade_1 rfl (lv_at hl 1 rfl) ?_
  refine lv_iload_n hx hb dX9_breadMade_2 rfl (lv_at hl 3 rfl) ?_
  obtain ⟨r1, hc2, hf⟩ := bd1_e hf
  refine r_callVi0 C hw (c_X9_breadOf (zt := zt) hc2) md_X9_breadOf [0, 1, 2, 3, 4, 5] rfl rfl q2_200 0 rfl cf_X9.1 ⟨Nat.le_of_ble_eq_true rfl, Nat.le_of_ble_eq_true rfl⟩ ⟨Nat.zero_le _, Nat.zero_le _⟩ hl.1 rfl rfl (Nat.le_of_ble_eq_true rfl) dX9_breadMade_3 (fun H locs hw => ?_)
  refine lv_istore (lv' := [(4, .int r1), (0, .ref (zt 0)), (1, .int x1), (2, .int x2), (3, .int x3)]) hx hb dX9_breadMade_6 hl (by decide) rfl (fun ls hl => ?_)
  refine lv_aload_n hx hb dX9_breadMade_8 rfl (lv_at hl 1 rfl) ?_
  refine lv_iload_n hx hb dX9_breadMade_9 rfl (lv_at hl 3 rfl) ?_
  obtain ⟨r3, hc4, hf⟩ := bd1_e hf
  refine r_callVi0 C hw (c_X9_kindOf (zt := zt) hc4) md_X9_kindOf [0, 1, 2, 3, 4, 5] rfl rfl q3_94 0 rfl cf_X9.1 ⟨Nat.le_of_ble_eq_true rfl, Nat.le_of_ble_eq_true rfl⟩ ⟨Nat.zero_le _, Nat.zero_le _⟩ hl.1 rfl rfl (Nat.le_of_ble_eq_true rfl) dX9_breadMade_10 (fun H locs hw => ?_)
  refine lv_iconst (v := (2 : Int32)) hx hb dX9_breadMade_13 rfl ?_
  refine lv_icmp_ne (tgt := 24) hx hb dX9_breadMade_14 (by decide) (fun hc5 => ?_) (fun hc5 => ?_)
  · have hf := it_n hf hc5
    refine lv_iload hx hb dX9_breadMade_24 (lv_at hl 0 rfl) ?_
    obtain rfl := so1 hf
    exact r_iret C hw rfl dX9_breadMade_26
  · have hf := it_p hf hc5
    refine lv_iload hx hb dX9_breadMade_17 (lv_at hl 0 rfl) ?_
    refine lv_iconst (v := (2 : Int32)) hx hb dX9_breadMade_19 rfl ?_
    refine lv_idiv hx hb dX9_breadMade_20 (by decide) ?_
    refine lv_goto (tgt := 26) hx hb dX9_breadMade_21 (by decide) ?_
    obtain rfl := so1 hf
    exact r_iret C hw rfl dX9_breadMade_26
set_option maxRecDepth 100000 in
set_option maxHeartbeats 4000000 in
theorem c_X9_hasPair {l : Launch} {g : evG} {zt : Nat → Nat} {r : Int32}  {Tt : Gp} {x1 : Int32} (hf : fX9_hasPair Tt x1 = some (r)) : CTi l g yX9_hasPair (Cond.code yX9_hasPair cX9_hasPair 2 (some .boolean)) 1 22 [.ref (zt 0), .int x1] (gcT g zt Tt) (gcT g zt Tt) r := by
  refine ct_i rfl (Nat.le_of_ble_eq_true rfl) ?_
  intro p e s m args below meth c A ls C hw hl
  have C : ctx g p s m args meth c RX9 cX9_hasPair 2 (some .boolean) A := C
  have hl : lv_has ls 2 [(0, .ref (zt 0)), (1, .int x1)] := hl
  obtain ⟨hx, hb, hml, hown, hts, -⟩ := id C
  unfold fX9_hasPair at hf
  refine lv_iload_n hx hb dX9_hasPair_0 rfl (lv_at hl 1 rfl) ?_
  refine lv_iconst (v := (0 : Int32)) hx hb dX9_hasPair_1 rfl ?_
  refine lv_aload_n hx hb dX9_hasPair_2 rfl (lv_at hl 0 rfl) ?_
  refine r_get C hw 0 rfl cf_X9 0 (by decide) q1_41 (v := .int (Tt 0 0)) rfl dX9_hasPair_3 ?_
  refine lv_iconst (v := (1 : Int32)) hx hb dX9_hasPair_6 rfl ?_
  refine lv_isub hx hb dX9_hasPair_7 ?_
  obtain ⟨r1, hc2, hf⟩ := bd1_e hf
  refine r_callNi0 C hw (c_X10_within hc2) md_X10_within [] rfl rfl nq_30 ⟨Nat.le_of_ble_eq_true rfl, Nat.le_of_ble_eq_true rfl⟩ ⟨Nat.zero_le _, Nat.zero_le _⟩ hl.1 rfl rfl (Nat.le_of_ble_eq_true rfl) dX9_hasPair_8 (fun H locs hw => ?_)
  obtain ⟨hn, hf⟩ := it_g hf
  obtain rfl := so1 hf
  exact r_zret C hw rfl hn dX9_hasPair_11
set_option maxRecDepth 100000 in
set_option maxHeartbeats 4000000 in
theorem c_X9_tellKind {l : Launch} {g : evG} {zt : Nat → Nat} {ot : Gp}  {Tt : Gp} {x1 : Int32} {x2 : Int32} (hf : fX9_tellKind Tt x1 x2 = some (ot)) : CTv l g yX9_tellKind (Cond.code yX9_tellKind cX9_tellKind 3 none) 2 43 [.ref (zt 0), .int x1, .int x2] (gcT g zt Tt) (gcT g zt ot) := by
  refine ct_v rfl (Nat.le_of_ble_eq_true rfl) ?_
  intro p e s m args below meth c A ls C hw hl
  have C : ctx g p s m args meth c RX9 cX9_tellKind 3 none A := C
  have hl : lv_has ls 3 [(0, .ref (zt 0)), (1, .int x1), (2, .int x2)] := hl
  obtain ⟨hx, hb, hml, hown, hts, -⟩ := id C
  unfold fX9_tellKind at hf
  refine lv_aload_n hx hb dX9_tellKind_0 rfl (lv_at hl 0 rfl) ?_
  refine lv_iload_n hx hb dX9_tellKind_1 rfl (lv_at hl 1 rfl) ?_
  obtain ⟨r1, hc2, hf⟩ := bd1_e hf
  refine r_callVi0 C hw (c_X9_hasPair (zt := zt) hc2) md_X9_hasPair [0, 1, 2, 3, 4, 5] rfl rfl q2_186 0 rfl cf_X9.1 ⟨Nat.le_of_ble_eq_true rfl, Nat.le_of_ble_eq_true rfl⟩ ⟨Nat.zero_le _, Nat.zero_le _⟩ hl.1 rfl rfl (Nat.le_of_ble_eq_true rfl) dX9_tellKind_2 (fun H locs hw => ?_)
  refine lv_if_eq (tgt := 21) hx hb dX9_tellKind_5 (by decide) (fun hc5 => ?_) (fun hc5 => ?_)
  · have hf := it_p hf hc5
    obtain rfl := so1 hf
    exact r_vret C hw dX9_tellKind_21
  · have hf := it_n hf hc5
    refine lv_iload_n hx hb dX9_tellKind_8 rfl (lv_at hl 1 rfl) ?_
    refine lv_bipush (v := (6 : Int32)) hx hb dX9_tellKind_9 rfl ?_
    refine lv_icmp_ge (tgt := 21) hx hb dX9_tellKind_11 (by decide) (fun hc4 => ?_) (fun hc4 => ?_)
    · have hf := it_p hf hc4
      obtain rfl := so1 hf
      exact r_vret C hw dX9_tellKind_21
    · have hf := it_n hf hc4
      refine lv_aload_n hx hb dX9_tellKind_14 rfl (lv_at hl 0 rfl) ?_
      refine r_get C hw 0 rfl cf_X9 4 (by decide) q1_59 (v := .ref (zt 1)) rfl dX9_tellKind_15 ?_
      refine lv_iload_n hx hb dX9_tellKind_18 rfl (lv_at hl 1 rfl) ?_
      refine lv_iload_n hx hb dX9_tellKind_19 rfl (lv_at hl 2 rfl) ?_
      obtain ⟨hi3, hf⟩ := it_g hf
      refine r_iast C hw 1 (f := (Tt 1)) rfl hi3 (ws' := (gcT g zt (u2 Tt 1 x1.toNatClampNeg x2))) gcT_a1 dX9_tellKind_20 (fun H locs hw => ?_)
      obtain rfl := so1 hf
      exact r_vret C hw dX9_tellKind_21
set_option maxRecDepth 100000 in
set_option maxHeartbeats 4000000 in
theorem c_X9_canBeDone {l : Launch} {g : evG} {zt : Nat → Nat} {r : Int32}  {Tt : Gp} {x1 : Int32} {x2 : Int32} (hf : fX9_canBeDone Tt x1 x2 = some (r)) : CTi l g yX9_canBeDone (Cond.code yX9_canBeDone cX9_canBeDone 3 (some .boolean)) 1 23 [.ref (zt 0), .int x1, .int x2] (gcT g zt Tt) (gcT g zt Tt) r := by
  refine ct_i rfl (Nat.le_of_ble_eq_true rfl) ?_
  intro p e s m args below meth c A ls C hw hl
  have C : ctx g p s m args meth c RX9 cX9_canBeDone 3 (some .boolean) A := C
  have hl : lv_has ls 3 [(0, .ref (zt 0)), (1, .int x1), (2, .int x2)] := hl
  obtain ⟨hx, hb, hml, hown, hts, -⟩ := id C
  unfold fX9_canBeDone at hf
  refine lv_aload_n hx hb dX9_canBeDone_0 rfl (lv_at hl 0 rfl) ?_
  refine lv_iload_n hx hb dX9_canBeDone_1 rfl (lv_at hl 1 rfl) ?_
  refine lv_iload_n hx hb dX9_canBeDone_2 rfl (lv_at hl 2 rfl) ?_
  obtain ⟨r1, hc2, hf⟩ := bd1_e hf
  refine r_callVi0 C hw (c_X9_breadOf (zt := zt) hc2) md_X9_breadOf [0, 1, 2, 3, 4, 5] rfl rfl q2_200 0 rfl cf_X9.1 ⟨Nat.le_of_ble_eq_true rfl, Nat.le_of_ble_eq_true rfl⟩ ⟨Nat.zero_le _, Nat.zero_le _⟩ hl.1 rfl rfl (Nat.le_of_ble_eq_true rfl) dX9_canBeDone_3 (fun H locs hw => ?_)
  refine lv_iconst (v := (-1 : Int32)) hx hb dX9_canBeDone_6 rfl ?_
  refine lv_icmp_eq (tgt := 14) hx hb dX9_canBeDone_7 (by decide) (fun hc3 => ?_) (fun hc3 => ?_)
  · have hf := it_p hf hc3
    refine lv_iconst (v := (0 : Int32)) hx hb dX9_canBeDone_14 rfl ?_
    obtain rfl := so1 hf
    exact r_zret C hw rfl rfl dX9_canBeDone_15
  · have hf := it_n hf hc3
    refine lv_iconst (v := (1 : Int32)) hx hb dX9_canBeDone_10 rfl ?_
    refine lv_goto (tgt := 15) hx hb dX9_canBeDone_11 (by decide) ?_
    obtain rfl := so1 hf
    exact r_zret C hw rfl rfl dX9_canBeDone_15
set_option maxRecDepth 100000 in
set_option maxHeartbeats 4000000 in
theorem c_X9_tellMeant {l : Launch} {g : evG} {zt : Nat → Nat} {ot : Gp}  {Tt : Gp} {x1 : Int32} {x2 : Int32} {x3 : Int32} (hf : fX9_tellMeant Tt x1 x2 x3 = some (ot)) : CTv l g yX9_tellMeant (Cond.code yX9_tellMeant cX9_tellMeant 5 none) 1 22 [.ref (zt 0), .int x1, .int x2, .int x3] (gcT g zt Tt) (gcT g zt ot) := by
  refine ct_v rfl (Nat.le_of_ble_eq_true rfl) ?_
  intro p e s m args below meth c A ls C hw hl
  have C : ctx g p s m args meth c RX9 cX9_tellMeant 5 none A := C
  have hl : lv_has ls 5 [(0, .ref (zt 0)), (1, .int x1), (2, .int x2), (3, .int x3)] := hl
  obtain ⟨hx, hb, hml, hown, hts, -⟩ := id C
  unfold fX9_tellMeant at hf
  refine lv_iload_n hx hb dX9_tellMeant_0 rfl (lv_at hl 1 rfl) ?_
  refine lv_bipush (v := (48 : Int32)) hx hb dX9_tellMeant_1 rfl ?_
  refine lv_imul hx hb dX9_tellMeant_3 ?_
  refine lv_iload_n hx hb dX9_tellMeant_4 rfl (lv_at hl 2 rfl) ?_
  refine lv_iadd hx hb dX9_tellMeant_5 ?_
  refine lv_istore (lv' := [(4, .int ((x1 * (48 : Int32)) + x2)), (0, .ref (zt 0)), (1, .int x1), (2, .int x2), (3, .int x3)]) hx hb dX9_tellMeant_6 hl (by decide) rfl (fun ls hl => ?_)
  refine lv_iload hx hb dX9_tellMeant_8 (lv_at hl 0 rfl) ?_
  refine lv_iconst (v := (0 : Int32)) hx hb dX9_tellMeant_10 rfl ?_
  refine lv_aload_n hx hb dX9_tellMeant_11 rfl (lv_at hl 1 rfl) ?_
  refine r_get C hw 0 rfl cf_X9 8 (by decide) q1_63 (v := .ref (zt 5)) rfl dX9_tellMeant_12 ?_
  refine r_alen C hw 5 0 rfl rfl (v := (96 : Int32)) rfl dX9_tellMeant_15 ?_
  refine lv_iconst (v := (1 : Int32)) hx hb dX9_tellMeant_16 rfl ?_
  refine lv_isub hx hb dX9_tellMeant_17 ?_
  obtain ⟨r1, hc2, hf⟩ := bd1_e hf
  refine r_callNi0 C hw (c_X10_within hc2) md_X10_within [] rfl rfl nq_30 ⟨Nat.le_of_ble_eq_true rfl, Nat.le_of_ble_eq_true rfl⟩ ⟨Nat.zero_le _, Nat.zero_le _⟩ hl.1 rfl rfl (Nat.le_of_ble_eq_true rfl) dX9_tellMeant_18 (fun H locs hw => ?_)
  refine lv_if_eq (tgt := 32) hx hb dX9_tellMeant_21 (by decide) (fun hc4 => ?_) (fun hc4 => ?_)
  · have hf := it_p hf hc4
    obtain rfl := so1 hf
    exact r_vret C hw dX9_tellMeant_32
  · have hf := it_n hf hc4
    refine lv_aload_n hx hb dX9_tellMeant_24 rfl (lv_at hl 1 rfl) ?_
    refine r_get C hw 0 rfl cf_X9 8 (by decide) q1_63 (v := .ref (zt 5)) rfl dX9_tellMeant_25 ?_
    refine lv_iload hx hb dX9_tellMeant_28 (lv_at hl 0 rfl) ?_
    refine lv_iload_n hx hb dX9_tellMeant_30 rfl (lv_at hl 4 rfl) ?_
    obtain ⟨hi3, hf⟩ := it_g hf
    refine r_iast C hw 5 (f := (Tt 5)) rfl hi3 (ws' := (gcT g zt (u2 Tt 5 ((x1 * (48 : Int32)) + x2).toNatClampNeg x3))) gcT_a5 dX9_tellMeant_31 (fun H locs hw => ?_)
    obtain rfl := so1 hf
    exact r_vret C hw dX9_tellMeant_32
set_option maxRecDepth 100000 in
set_option maxHeartbeats 4000000 in
theorem c_X9_settle {l : Launch} {g : evG} {zt : Nat → Nat} {ot : Gp}  {Tt : Gp} {x1 : Int32} {x2 : Int32} (hf : fX9_settle Tt x1 x2 = some (ot)) : CTv l g yX9_settle (Cond.code yX9_settle cX9_settle 3 none) 1 23 [.ref (zt 0), .int x1, .int x2] (gcT g zt Tt) (gcT g zt ot) := by
  refine ct_v rfl (Nat.le_of_ble_eq_true rfl) ?_
  intro p e s m args below meth c A ls C hw hl
  have C : ctx g p s m args meth c RX9 cX9_settle 3 none A := C
  have hl : lv_has ls 3 [(0, .ref (zt 0)), (1, .int x1), (2, .int x2)] := hl
  obtain ⟨hx, hb, hml, hown, hts, -⟩ := id C
  unfold fX9_settle at hf
  refine lv_aload_n hx hb dX9_settle_0 rfl (lv_at hl 0 rfl) ?_
  refine lv_iload_n hx hb dX9_settle_1 rfl (lv_at hl 1 rfl) ?_
  refine r_puti C hw 0 rfl cf_X9 0 (by decide) q1_41 rfl rfl (Nat.le_of_ble_eq_true rfl) (ws' := (gcT g zt (u2 Tt 0 0 x1))) gcT_p0 dX9_settle_2 (fun H locs hw => ?_)
  refine lv_aload_n hx hb dX9_settle_5 rfl (lv_at hl 0 rfl) ?_
  refine lv_iload_n hx hb dX9_settle_6 rfl (lv_at hl 2 rfl) ?_
  refine r_puti C hw 0 rfl cf_X9 1 (by decide) q1_46 rfl rfl (Nat.le_of_ble_eq_true rfl) (ws' := (gcT g zt (u2 (u2 Tt 0 0 x1) 0 1 x2))) gcT_p1 dX9_settle_7 (fun H locs hw => ?_)
  refine lv_aload_n hx hb dX9_settle_10 rfl (lv_at hl 0 rfl) ?_
  refine r_get C hw 0 rfl cf_X9 4 (by decide) q1_59 (v := .ref (zt 1)) rfl dX9_settle_11 ?_
  refine lv_iconst (v := (0 : Int32)) hx hb dX9_settle_14 rfl ?_
  refine r_callSv C hw (c_fill (f := (Tt 1)) (n := 6) (a := zt 1) (v := (0 : Int32)) (by decide)) md_J7_fill_53178 [1] rfl rfl rfl q1_38 ⟨Nat.le_of_ble_eq_true rfl, Nat.le_of_ble_eq_true rfl⟩ ⟨Nat.zero_le _, Nat.zero_le _⟩ hl.1 rfl rfl (Nat.le_of_ble_eq_true rfl) dX9_settle_15 (fun H locs hw => ?_)
  have hw : wl g A s.heap (gcT g zt (uc (u2 (u2 Tt 0 0 x1) 0 1 x2) 1 (ev_fill (Tt 1) 6 (0 : Int32)))) H locs := wl.eq hw gcT_u1
  refine lv_aload_n hx hb dX9_settle_18 rfl (lv_at hl 0 rfl) ?_
  refine r_get C hw 0 rfl cf_X9 8 (by decide) q1_63 (v := .ref (zt 5)) rfl dX9_settle_19 ?_
  refine lv_iconst (v := (5 : Int32)) hx hb dX9_settle_22 rfl ?_
  refine r_callSv C hw (c_fill (f := (Tt 5)) (n := 96) (a := zt 5) (v := (5 : Int32)) (by decide)) md_J7_fill_53178 [5] rfl rfl rfl q1_38 ⟨Nat.le_of_ble_eq_true rfl, Nat.le_of_ble_eq_true rfl⟩ ⟨Nat.zero_le _, Nat.zero_le _⟩ hl.1 rfl rfl (Nat.le_of_ble_eq_true rfl) dX9_settle_23 (fun H locs hw => ?_)
  have hw : wl g A s.heap (gcT g zt (uc (uc (u2 (u2 Tt 0 0 x1) 0 1 x2) 1 (ev_fill (Tt 1) 6 (0 : Int32))) 5 (ev_fill (Tt 5) 96 (5 : Int32)))) H locs := wl.eq hw gcT_u5
  obtain rfl := so1 hf
  exact r_vret C hw dX9_settle_26
set_option maxRecDepth 100000 in
set_option maxHeartbeats 4000000 in
theorem c_X9_tellBread {l : Launch} {g : evG} {zt : Nat → Nat} {ot : Gp}  {Tt : Gp} {x1 : Int32} {x2 : Int32} {x3 : Int32} (hf : fX9_tellBread Tt x1 x2 x3 = some (ot)) : CTv l g yX9_tellBread (Cond.code yX9_tellBread cX9_tellBread 4 none) 0 0 [.ref (zt 0), .int x1, .int x2, .int x3] (gcT g zt Tt) (gcT g zt ot) := by
  refine ct_v rfl (Nat.le_of_ble_eq_true rfl) ?_
  intro p e s m args below meth c A ls C hw hl
  have C : ctx g p s m args meth c RX9 cX9_tellBread 4 none A := C
  have hl : lv_has ls 4 [(0, .ref (zt 0)), (1, .int x1), (2, .int x2), (3, .int x3)] := hl
  obtain ⟨hx, hb, hml, hown, hts, -⟩ := id C
  unfold fX9_tellBread at hf
  refine lv_iload_n hx hb dX9_tellBread_0 rfl (lv_at hl 1 rfl) ?_
  refine lv_if_lt (tgt := 18) hx hb dX9_tellBread_1 (by decide) (fun hc5 => ?_) (fun hc5 => ?_)
  · have hf := it_p hf hc5
    obtain rfl := so1 hf
    exact r_vret C hw dX9_tellBread_18
  · have hf := it_n hf hc5
    refine lv_iload_n hx hb dX9_tellBread_4 rfl (lv_at hl 1 rfl) ?_
    refine lv_iconst (v := (2 : Int32)) hx hb dX9_tellBread_5 rfl ?_
    refine lv_icmp_ge (tgt := 18) hx hb dX9_tellBread_6 (by decide) (fun hc4 => ?_) (fun hc4 => ?_)
    · have hf := it_p hf hc4
      obtain rfl := so1 hf
      exact r_vret C hw dX9_tellBread_18
    · have hf := it_n hf hc4
      refine lv_iload_n hx hb dX9_tellBread_9 rfl (lv_at hl 2 rfl) ?_
      refine lv_if_lt (tgt := 18) hx hb dX9_tellBread_10 (by decide) (fun hc3 => ?_) (fun hc3 => ?_)
      · have hf := it_p hf hc3
        obtain rfl := so1 hf
        exact r_vret C hw dX9_tellBread_18
      · have hf := it_n hf hc3
        refine lv_iload_n hx hb dX9_tellBread_13 rfl (lv_at hl 2 rfl) ?_
        refine lv_iconst (v := (5 : Int32)) hx hb dX9_tellBread_14 rfl ?_
        refine lv_icmp_lt (tgt := 19) hx hb dX9_tellBread_15 (by decide) (fun hc2 => ?_) (fun hc2 => ?_)
        · have hf := it_p hf hc2
          refine lv_aload_n hx hb dX9_tellBread_19 rfl (lv_at hl 0 rfl) ?_
          refine r_get C hw 0 rfl cf_X9 6 (by decide) q1_61 (v := .ref (zt 3)) rfl dX9_tellBread_20 ?_
          refine lv_iload_n hx hb dX9_tellBread_23 rfl (lv_at hl 1 rfl) ?_
          refine lv_iconst (v := (5 : Int32)) hx hb dX9_tellBread_24 rfl ?_
          refine lv_imul hx hb dX9_tellBread_25 ?_
          refine lv_iload_n hx hb dX9_tellBread_26 rfl (lv_at hl 2 rfl) ?_
          refine lv_iadd hx hb dX9_tellBread_27 ?_
          refine lv_iload_n hx hb dX9_tellBread_28 rfl (lv_at hl 3 rfl) ?_
          obtain ⟨hi1, hf⟩ := it_g hf
          refine r_iast C hw 3 (f := (Tt 3)) rfl hi1 (ws' := (gcT g zt (u2 Tt 3 ((x1 * (5 : Int32)) + x2).toNatClampNeg x3))) gcT_a3 dX9_tellBread_29 (fun H locs hw => ?_)
          obtain rfl := so1 hf
          exact r_vret C hw dX9_tellBread_30
        · have hf := it_n hf hc2
          obtain rfl := so1 hf
          exact r_vret C hw dX9_tellBread_18
set_option maxRecDepth 100000 in
set_option maxHeartbeats 4000000 in
theorem c_X9_tellWork {l : Launch} {g : evG} {zt : Nat → Nat} {ot : Gp}  {Tt : Gp} {x1 : Int32} {x2 : Int32} {x3 : Int32} (hf : fX9_tellWork Tt x1 x2 x3 = some (ot)) : CTv l g yX9_tellWork (Cond.code yX9_tellWork cX9_tellWork 4 none) 0 0 [.ref (zt 0), .int x1, .int x2, .int x3] (gcT g zt Tt) (gcT g zt ot) := by
  refine ct_v rfl (Nat.le_of_ble_eq_true rfl) ?_
  intro p e s m args below meth c A ls C hw hl
  have C : ctx g p s m args meth c RX9 cX9_tellWork 4 none A := C
  have hl : lv_has ls 4 [(0, .ref (zt 0)), (1, .int x1), (2, .int x2), (3, .int x3)] := hl
  obtain ⟨hx, hb, hml, hown, hts, -⟩ := id C
  unfold fX9_tellWork at hf
  refine lv_iload_n hx hb dX9_tellWork_0 rfl (lv_at hl 1 rfl) ?_
  refine lv_if_lt (tgt := 9) hx hb dX9_tellWork_1 (by decide) (fun hc4 => ?_) (fun hc4 => ?_)
  · have hf := it_p hf hc4
    obtain rfl := so1 hf
    exact r_vret C hw dX9_tellWork_9
  · have hf := it_n hf hc4
    refine lv_iload_n hx hb dX9_tellWork_4 rfl (lv_at hl 1 rfl) ?_
    refine lv_iconst (v := (5 : Int32)) hx hb dX9_tellWork_5 rfl ?_
    refine lv_icmp_lt (tgt := 10) hx hb dX9_tellWork_6 (by decide) (fun hc3 => ?_) (fun hc3 => ?_)
    · have hf := it_p hf hc3
      refine lv_aload_n hx hb dX9_tellWork_10 rfl (lv_at hl 0 rfl) ?_
      refine r_get C hw 0 rfl cf_X9 5 (by decide) q1_60 (v := .ref (zt 2)) rfl dX9_tellWork_11 ?_
      refine lv_iload_n hx hb dX9_tellWork_14 rfl (lv_at hl 1 rfl) ?_
      refine lv_iload_n hx hb dX9_tellWork_15 rfl (lv_at hl 2 rfl) ?_
      obtain ⟨hi1, hf⟩ := it_g hf
      refine r_iast C hw 2 (f := (Tt 2)) rfl hi1 (ws' := (gcT g zt (u2 Tt 2 x1.toNatClampNeg x2))) gcT_a2 dX9_tellWork_16 (fun H locs hw => ?_)
      refine lv_aload_n hx hb dX9_tellWork_17 rfl (lv_at hl 0 rfl) ?_
      refine r_get C hw 0 rfl cf_X9 7 (by decide) q1_62 (v := .ref (zt 4)) rfl dX9_tellWork_18 ?_
      refine lv_iload_n hx hb dX9_tellWork_21 rfl (lv_at hl 1 rfl) ?_
      refine lv_iload_n hx hb dX9_tellWork_22 rfl (lv_at hl 3 rfl) ?_
      obtain ⟨hi2, hf⟩ := it_g hf
      refine r_iast C hw 4 (f := ((u2 Tt 2 x1.toNatClampNeg x2) 4)) rfl hi2 (ws' := (gcT g zt (u2 (u2 Tt 2 x1.toNatClampNeg x2) 4 x1.toNatClampNeg x3))) gcT_a4 dX9_tellWork_23 (fun H locs hw => ?_)
      obtain rfl := so1 hf
      exact r_vret C hw dX9_tellWork_24
    · have hf := it_n hf hc3
      obtain rfl := so1 hf
      exact r_vret C hw dX9_tellWork_9
set_option maxRecDepth 100000 in
set_option maxHeartbeats 4000000 in
theorem c_X9_worthOf {l : Launch} {g : evG} {zt : Nat → Nat} {r : Int32}  {Tt : Gp} {x1 : Int32} (hf : fX9_worthOf Tt x1 = some (r)) : CTi l g yX9_worthOf (Cond.code yX9_worthOf cX9_worthOf 2 (some .int)) 0 0 [.ref (zt 0), .int x1] (gcT g zt Tt) (gcT g zt Tt) r := by
  refine ct_i rfl (Nat.le_of_ble_eq_true rfl) ?_
  intro p e s m args below meth c A ls C hw hl
  have C : ctx g p s m args meth c RX9 cX9_worthOf 2 (some .int) A := C
  have hl : lv_has ls 2 [(0, .ref (zt 0)), (1, .int x1)] := hl
  obtain ⟨hx, hb, hml, hown, hts, -⟩ := id C
  unfold fX9_worthOf at hf
  refine lv_iload_n hx hb dX9_worthOf_0 rfl (lv_at hl 1 rfl) ?_
  refine lv_if_lt (tgt := 18) hx hb dX9_worthOf_1 (by decide) (fun hc3 => ?_) (fun hc3 => ?_)
  · have hf := it_p hf hc3
    refine lv_iconst (v := (0 : Int32)) hx hb dX9_worthOf_18 rfl ?_
    obtain rfl := so1 hf
    exact r_iret C hw rfl dX9_worthOf_19
  · have hf := it_n hf hc3
    refine lv_iload_n hx hb dX9_worthOf_4 rfl (lv_at hl 1 rfl) ?_
    refine lv_iconst (v := (5 : Int32)) hx hb dX9_worthOf_5 rfl ?_
    refine lv_icmp_ge (tgt := 18) hx hb dX9_worthOf_6 (by decide) (fun hc2 => ?_) (fun hc2 => ?_)
    · have hf := it_p hf hc2
      refine lv_iconst (v := (0 : Int32)) hx hb dX9_worthOf_18 rfl ?_
      obtain rfl := so1 hf
      exact r_iret C hw rfl dX9_worthOf_19
    · have hf := it_n hf hc2
      refine lv_aload_n hx hb dX9_worthOf_9 rfl (lv_at hl 0 rfl) ?_
      refine r_get C hw 0 rfl cf_X9 7 (by decide) q1_62 (v := .ref (zt 4)) rfl dX9_worthOf_10 ?_
      refine lv_iload_n hx hb dX9_worthOf_13 rfl (lv_at hl 1 rfl) ?_
      obtain ⟨hi1, hf⟩ := it_g hf
      refine r_iald C hw 4 (f := (Tt 4)) rfl hi1 dX9_worthOf_14 ?_
      refine lv_goto (tgt := 19) hx hb dX9_worthOf_15 (by decide) ?_
      obtain rfl := so1 hf
      exact r_iret C hw rfl dX9_worthOf_19
set_option maxRecDepth 100000 in
set_option maxHeartbeats 4000000 in
theorem kX9_becomeLike_123 {l : Launch} {g : evG} {p : Program} {e : Env} {s : State} {m : MethodId} {args : Array Value} {below : List Frame} {meth : Method} {c : Code} {A : Nat → Prop} {zo : Nat → Nat} {zt : Nat → Nat} {ot : Gp} (C : ctx g p s m args meth c RX9 cX9_becomeLike 3 none A) {To : Gp} {rec123 : Gp → Int32 → Option (Gp)} (hr123 : ∀ (Tt : Gp) (x2 : Int32) (H : Heap) (locs : List Loc) (ls : Array Slot), rec123 Tt x2 = some (ot) → wl g A s.heap (gcT g zt Tt ++ (gcT g zo To)) H locs → lv_has ls 3 [(0, .ref (zt 0)), (1, .ref (zo 0)), (2, .int x2)] → W p l e (rmK 0 0) s m args below meth c H locs 0 0 (MQ below (Qv g A (gcT g zt ot ++ (gcT g zo To))) args s 0 0 A) (F0 m 123 ls [])) {Tt : Gp} {x2 : Int32} {H : Heap} {locs : List Loc} {ls : Array Slot} (hf : fX9_becomeLike_123 To rec123 Tt x2 = some (ot)) (hw : wl g A s.heap (gcT g zt Tt ++ (gcT g zo To)) H locs) (hl : lv_has ls 3 [(0, .ref (zt 0)), (1, .ref (zo 0)), (2, .int x2)]) : W p l e (rmK 0 0) s m args below meth c H locs 0 0 (MQ below (Qv g A (gcT g zt ot ++ (gcT g zo To))) args s 0 0 A) (F0 m 123 ls []) := by
  obtain ⟨hx, hb, hml, hown, hts, -⟩ := id C
  unfold fX9_becomeLike_123 at hf
  refine lv_iload_n hx hb dX9_becomeLike_123 rfl (lv_at hl 2 rfl) ?_
  refine lv_bipush (v := (96 : Int32)) hx hb dX9_becomeLike_124 rfl ?_
  refine lv_icmp_ge (tgt := 147) hx hb dX9_becomeLike_126 (by decide) (fun hc3 => ?_) (fun hc3 => ?_)
  · have hf := it_p hf hc3
    obtain rfl := so1 hf
    exact r_vret C hw dX9_becomeLike_147
  · have hf := it_n hf hc3
    refine lv_aload_n hx hb dX9_becomeLike_129 rfl (lv_at hl 0 rfl) ?_
    refine r_get C hw 0 rfl cf_X9 8 (by decide) q1_63 (v := .ref (zt 5)) rfl dX9_becomeLike_130 ?_
    refine lv_iload_n hx hb dX9_becomeLike_133 rfl (lv_at hl 2 rfl) ?_
    refine lv_aload_n hx hb dX9_becomeLike_134 rfl (lv_at hl 1 rfl) ?_
    refine r_get C hw 6 rfl cf_X9 8 (by decide) q1_63 (v := .ref (zo 5)) rfl dX9_becomeLike_135 ?_
    refine lv_iload_n hx hb dX9_becomeLike_138 rfl (lv_at hl 2 rfl) ?_
    obtain ⟨hi1, hf⟩ := it_g hf
    refine r_iald C hw 11 (f := (To 5)) rfl hi1 dX9_becomeLike_139 ?_
    obtain ⟨hi2, hf⟩ := it_g hf
    refine r_iast C hw 5 (f := (Tt 5)) rfl hi2 (ws' := (gcT g zt (u2 Tt 5 x2.toNatClampNeg (To 5 x2.toNatClampNeg)) ++ (gcT g zo To))) (set_l (Nat.le_of_ble_eq_true rfl) gcT_a5) dX9_becomeLike_140 (fun H locs hw => ?_)
    refine lv_iinc (v := (x2 + (1 : Int32))) (lv' := [(2, .int (x2 + (1 : Int32))), (0, .ref (zt 0)), (1, .ref (zo 0))]) hx hb dX9_becomeLike_141 hl (k := 2) rfl rfl (by decide) rfl (fun ls hl => ?_)
    refine lv_goto (tgt := 123) hx hb dX9_becomeLike_144 (by decide) ?_
    exact hr123 _ _ _ _ _ hf hw (lv_sub hl [1, 2, 0] rfl)
set_option maxRecDepth 100000 in
set_option maxHeartbeats 4000000 in
theorem klX9_becomeLike_123 {l : Launch} {g : evG} {p : Program} {e : Env} {s : State} {m : MethodId} {args : Array Value} {below : List Frame} {meth : Method} {c : Code} {A : Nat → Prop} {zo : Nat → Nat} {zt : Nat → Nat} {ot : Gp} (C : ctx g p s m args meth c RX9 cX9_becomeLike 3 none A) {To : Gp} : ∀ (n : Nat) (Tt : Gp) (x2 : Int32) (H : Heap) (locs : List Loc) (ls : Array Slot), lX9_becomeLike_123 To n Tt x2 = some (ot) → wl g A s.heap (gcT g zt Tt ++ (gcT g zo To)) H locs → lv_has ls 3 [(0, .ref (zt 0)), (1, .ref (zo 0)), (2, .int x2)] → W p l e (rmK 0 0) s m args below meth c H locs 0 0 (MQ below (Qv g A (gcT g zt ot ++ (gcT g zo To))) args s 0 0 A) (F0 m 123 ls []) := by
  intro n
  induction n with
  | zero => intro _ _ _ _ _ hf; exact no_f hf
  | succ n ih => intro _ _ _ _ _ hf hw hl; exact kX9_becomeLike_123 (zo := zo) (zt := zt) (ot := ot) C (rec123 := lX9_becomeLike_123 To n) ih hf hw hl
set_option maxRecDepth 100000 in
set_option maxHeartbeats 4000000 in
theorem kX9_becomeLike_97 {l : Launch} {g : evG} {p : Program} {e : Env} {s : State} {m : MethodId} {args : Array Value} {below : List Frame} {meth : Method} {c : Code} {A : Nat → Prop} {zo : Nat → Nat} {zt : Nat → Nat} {ot : Gp} (C : ctx g p s m args meth c RX9 cX9_becomeLike 3 none A) {To : Gp} {rec97 : Gp → Int32 → Option (Gp)} (hr97 : ∀ (Tt : Gp) (x2 : Int32) (H : Heap) (locs : List Loc) (ls : Array Slot), rec97 Tt x2 = some (ot) → wl g A s.heap (gcT g zt Tt ++ (gcT g zo To)) H locs → lv_has ls 3 [(0, .ref (zt 0)), (1, .ref (zo 0)), (2, .int x2)] → W p l e (rmK 0 0) s m args below meth c H locs 0 0 (MQ below (Qv g A (gcT g zt ot ++ (gcT g zo To))) args s 0 0 A) (F0 m 97 ls [])) {Tt : Gp} {x2 : Int32} {H : Heap} {locs : List Loc} {ls : Array Slot} (hf : fX9_becomeLike_97 To rec97 Tt x2 = some (ot)) (hw : wl g A s.heap (gcT g zt Tt ++ (gcT g zo To)) H locs) (hl : lv_has ls 3 [(0, .ref (zt 0)), (1, .ref (zo 0)), (2, .int x2)]) : W p l e (rmK 0 0) s m args below meth c H locs 0 0 (MQ below (Qv g A (gcT g zt ot ++ (gcT g zo To))) args s 0 0 A) (F0 m 97 ls []) := by
  obtain ⟨hx, hb, hml, hown, hts, -⟩ := id C
  unfold fX9_becomeLike_97 at hf
  refine lv_iload_n hx hb dX9_becomeLike_97 rfl (lv_at hl 2 rfl) ?_
  refine lv_bipush (v := (10 : Int32)) hx hb dX9_becomeLike_98 rfl ?_
  refine lv_icmp_ge (tgt := 121) hx hb dX9_becomeLike_100 (by decide) (fun hc3 => ?_) (fun hc3 => ?_)
  · have hf := it_p hf hc3
    refine lv_iconst (v := (0 : Int32)) hx hb dX9_becomeLike_121 rfl ?_
    refine lv_istore_n (lv' := [(2, .int (0 : Int32)), (0, .ref (zt 0)), (1, .ref (zo 0))]) hx hb dX9_becomeLike_122 rfl hl (by decide) rfl (fun ls hl => ?_)
    exact klX9_becomeLike_123 (zo := zo) (zt := zt) (ot := ot) C fu _ _ _ _ _ hf hw (lv_sub hl [1, 2, 0] rfl)
  · have hf := it_n hf hc3
    refine lv_aload_n hx hb dX9_becomeLike_103 rfl (lv_at hl 0 rfl) ?_
    refine r_get C hw 0 rfl cf_X9 6 (by decide) q1_61 (v := .ref (zt 3)) rfl dX9_becomeLike_104 ?_
    refine lv_iload_n hx hb dX9_becomeLike_107 rfl (lv_at hl 2 rfl) ?_
    refine lv_aload_n hx hb dX9_becomeLike_108 rfl (lv_at hl 1 rfl) ?_
    refine r_get C hw 6 rfl cf_X9 6 (by decide) q1_61 (v := .ref (zo 3)) rfl dX9_becomeLike_109 ?_
    refine lv_iload_n hx hb dX9_becomeLike_112 rfl (lv_at hl 2 rfl) ?_
    obtain ⟨hi1, hf⟩ := it_g hf
    refine r_iald C hw 9 (f := (To 3)) rfl hi1 dX9_becomeLike_113 ?_
    obtain ⟨hi2, hf⟩ := it_g hf
    refine r_iast C hw 3 (f := (Tt 3)) rfl hi2 (ws' := (gcT g zt (u2 Tt 3 x2.toNatClampNeg (To 3 x2.toNatClampNeg)) ++ (gcT g zo To))) (set_l (Nat.le_of_ble_eq_true rfl) gcT_a3) dX9_becomeLike_114 (fun H locs hw => ?_)
    refine lv_iinc (v := (x2 + (1 : Int32))) (lv' := [(2, .int (x2 + (1 : Int32))), (0, .ref (zt 0)), (1, .ref (zo 0))]) hx hb dX9_becomeLike_115 hl (k := 2) rfl rfl (by decide) rfl (fun ls hl => ?_)
    refine lv_goto (tgt := 97) hx hb dX9_becomeLike_118 (by decide) ?_
    exact hr97 _ _ _ _ _ hf hw (lv_sub hl [1, 2, 0] rfl)
set_option maxRecDepth 100000 in
set_option maxHeartbeats 4000000 in
theorem klX9_becomeLike_97 {l : Launch} {g : evG} {p : Program} {e : Env} {s : State} {m : MethodId} {args : Array Value} {below : List Frame} {meth : Method} {c : Code} {A : Nat → Prop} {zo : Nat → Nat} {zt : Nat → Nat} {ot : Gp} (C : ctx g p s m args meth c RX9 cX9_becomeLike 3 none A) {To : Gp} : ∀ (n : Nat) (Tt : Gp) (x2 : Int32) (H : Heap) (locs : List Loc) (ls : Array Slot), lX9_becomeLike_97 To n Tt x2 = some (ot) → wl g A s.heap (gcT g zt Tt ++ (gcT g zo To)) H locs → lv_has ls 3 [(0, .ref (zt 0)), (1, .ref (zo 0)), (2, .int x2)] → W p l e (rmK 0 0) s m args below meth c H locs 0 0 (MQ below (Qv g A (gcT g zt ot ++ (gcT g zo To))) args s 0 0 A) (F0 m 97 ls []) := by
  intro n
  induction n with
  | zero => intro _ _ _ _ _ hf; exact no_f hf
  | succ n ih => intro _ _ _ _ _ hf hw hl; exact kX9_becomeLike_97 (zo := zo) (zt := zt) (ot := ot) C (rec97 := lX9_becomeLike_97 To n) ih hf hw hl
set_option maxRecDepth 100000 in
set_option maxHeartbeats 4000000 in
theorem kX9_becomeLike_60 {l : Launch} {g : evG} {p : Program} {e : Env} {s : State} {m : MethodId} {args : Array Value} {below : List Frame} {meth : Method} {c : Code} {A : Nat → Prop} {zo : Nat → Nat} {zt : Nat → Nat} {ot : Gp} (C : ctx g p s m args meth c RX9 cX9_becomeLike 3 none A) {To : Gp} {rec60 : Gp → Int32 → Option (Gp)} (hr60 : ∀ (Tt : Gp) (x2 : Int32) (H : Heap) (locs : List Loc) (ls : Array Slot), rec60 Tt x2 = some (ot) → wl g A s.heap (gcT g zt Tt ++ (gcT g zo To)) H locs → lv_has ls 3 [(0, .ref (zt 0)), (1, .ref (zo 0)), (2, .int x2)] → W p l e (rmK 0 0) s m args below meth c H locs 0 0 (MQ below (Qv g A (gcT g zt ot ++ (gcT g zo To))) args s 0 0 A) (F0 m 60 ls [])) {Tt : Gp} {x2 : Int32} {H : Heap} {locs : List Loc} {ls : Array Slot} (hf : fX9_becomeLike_60 To rec60 Tt x2 = some (ot)) (hw : wl g A s.heap (gcT g zt Tt ++ (gcT g zo To)) H locs) (hl : lv_has ls 3 [(0, .ref (zt 0)), (1, .ref (zo 0)), (2, .int x2)]) : W p l e (rmK 0 0) s m args below meth c H locs 0 0 (MQ below (Qv g A (gcT g zt ot ++ (gcT g zo To))) args s 0 0 A) (F0 m 60 ls []) := by
  obtain ⟨hx, hb, hml, hown, hts, -⟩ := id C
  unfold fX9_becomeLike_60 at hf
  refine lv_iload_n hx hb dX9_becomeLike_60 rfl (lv_at hl 2 rfl) ?_
  refine lv_iconst (v := (5 : Int32)) hx hb dX9_becomeLike_61 rfl ?_
  refine lv_icmp_ge (tgt := 95) hx hb dX9_becomeLike_62 (by decide) (fun hc5 => ?_) (fun hc5 => ?_)
  · have hf := it_p hf hc5
    refine lv_iconst (v := (0 : Int32)) hx hb dX9_becomeLike_95 rfl ?_
    refine lv_istore_n (lv' := [(2, .int (0 : Int32)), (0, .ref (zt 0)), (1, .ref (zo 0))]) hx hb dX9_becomeLike_96 rfl hl (by decide) rfl (fun ls hl => ?_)
    exact klX9_becomeLike_97 (zo := zo) (zt := zt) (ot := ot) C fu _ _ _ _ _ hf hw (lv_sub hl [1, 2, 0] rfl)
  · have hf := it_n hf hc5
    refine lv_aload_n hx hb dX9_becomeLike_65 rfl (lv_at hl 0 rfl) ?_
    refine r_get C hw 0 rfl cf_X9 5 (by decide) q1_60 (v := .ref (zt 2)) rfl dX9_becomeLike_66 ?_
    refine lv_iload_n hx hb dX9_becomeLike_69 rfl (lv_at hl 2 rfl) ?_
    refine lv_aload_n hx hb dX9_becomeLike_70 rfl (lv_at hl 1 rfl) ?_
    refine r_get C hw 6 rfl cf_X9 5 (by decide) q1_60 (v := .ref (zo 2)) rfl dX9_becomeLike_71 ?_
    refine lv_iload_n hx hb dX9_becomeLike_74 rfl (lv_at hl 2 rfl) ?_
    obtain ⟨hi1, hf⟩ := it_g hf
    refine r_iald C hw 8 (f := (To 2)) rfl hi1 dX9_becomeLike_75 ?_
    obtain ⟨hi2, hf⟩ := it_g hf
    refine r_iast C hw 2 (f := (Tt 2)) rfl hi2 (ws' := (gcT g zt (u2 Tt 2 x2.toNatClampNeg (To 2 x2.toNatClampNeg)) ++ (gcT g zo To))) (set_l (Nat.le_of_ble_eq_true rfl) gcT_a2) dX9_becomeLike_76 (fun H locs hw => ?_)
    refine lv_aload_n hx hb dX9_becomeLike_77 rfl (lv_at hl 0 rfl) ?_
    refine r_get C hw 0 rfl cf_X9 7 (by decide) q1_62 (v := .ref (zt 4)) rfl dX9_becomeLike_78 ?_
    refine lv_iload_n hx hb dX9_becomeLike_81 rfl (lv_at hl 2 rfl) ?_
    refine lv_aload_n hx hb dX9_becomeLike_82 rfl (lv_at hl 1 rfl) ?_
    refine r_get C hw 6 rfl cf_X9 7 (by decide) q1_62 (v := .ref (zo 4)) rfl dX9_becomeLike_83 ?_
    refine lv_iload_n hx hb dX9_becomeLike_86 rfl (lv_at hl 2 rfl) ?_
    obtain ⟨hi3, hf⟩ := it_g hf
    refine r_iald C hw 10 (f := (To 4)) rfl hi3 dX9_becomeLike_87 ?_
    obtain ⟨hi4, hf⟩ := it_g hf
    refine r_iast C hw 4 (f := ((u2 Tt 2 x2.toNatClampNeg (To 2 x2.toNatClampNeg)) 4)) rfl hi4 (ws' := (gcT g zt (u2 (u2 Tt 2 x2.toNatClampNeg (To 2 x2.toNatClampNeg)) 4 x2.toNatClampNeg (To 4 x2.toNatClampNeg)) ++ (gcT g zo To))) (set_l (Nat.le_of_ble_eq_true rfl) gcT_a4) dX9_becomeLike_88 (fun H locs hw => ?_)
    refine lv_iinc (v := (x2 + (1 : Int32))) (lv' := [(2, .int (x2 + (1 : Int32))), (0, .ref (zt 0)), (1, .ref (zo 0))]) hx hb dX9_becomeLike_89 hl (k := 2) rfl rfl (by decide) rfl (fun ls hl => ?_)
    refine lv_goto (tgt := 60) hx hb dX9_becomeLike_92 (by decide) ?_
    exact hr60 _ _ _ _ _ hf hw (lv_sub hl [1, 2, 0] rfl)
set_option maxRecDepth 100000 in
set_option maxHeartbeats 4000000 in
theorem klX9_becomeLike_60 {l : Launch} {g : evG} {p : Program} {e : Env} {s : State} {m : MethodId} {args : Array Value} {below : List Frame} {meth : Method} {c : Code} {A : Nat → Prop} {zo : Nat → Nat} {zt : Nat → Nat} {ot : Gp} (C : ctx g p s m args meth c RX9 cX9_becomeLike 3 none A) {To : Gp} : ∀ (n : Nat) (Tt : Gp) (x2 : Int32) (H : Heap) (locs : List Loc) (ls : Array Slot), lX9_becomeLike_60 To n Tt x2 = some (ot) → wl g A s.heap (gcT g zt Tt ++ (gcT g zo To)) H locs → lv_has ls 3 [(0, .ref (zt 0)), (1, .ref (zo 0)), (2, .int x2)] → W p l e (rmK 0 0) s m args below meth c H locs 0 0 (MQ below (Qv g A (gcT g zt ot ++ (gcT g zo To))) args s 0 0 A) (F0 m 60 ls []) := by
  intro n
  induction n with
  | zero => intro _ _ _ _ _ hf; exact no_f hf
  | succ n ih => intro _ _ _ _ _ hf hw hl; exact kX9_becomeLike_60 (zo := zo) (zt := zt) (ot := ot) C (rec60 := lX9_becomeLike_60 To n) ih hf hw hl
set_option maxRecDepth 100000 in
set_option maxHeartbeats 4000000 in
theorem kX9_becomeLike_34 {l : Launch} {g : evG} {p : Program} {e : Env} {s : State} {m : MethodId} {args : Array Value} {below : List Frame} {meth : Method} {c : Code} {A : Nat → Prop} {zo : Nat → Nat} {zt : Nat → Nat} {ot : Gp} (C : ctx g p s m args meth c RX9 cX9_becomeLike 3 none A) {To : Gp} {rec34 : Gp → Int32 → Option (Gp)} (hr34 : ∀ (Tt : Gp) (x2 : Int32) (H : Heap) (locs : List Loc) (ls : Array Slot), rec34 Tt x2 = some (ot) → wl g A s.heap (gcT g zt Tt ++ (gcT g zo To)) H locs → lv_has ls 3 [(0, .ref (zt 0)), (1, .ref (zo 0)), (2, .int x2)] → W p l e (rmK 0 0) s m args below meth c H locs 0 0 (MQ below (Qv g A (gcT g zt ot ++ (gcT g zo To))) args s 0 0 A) (F0 m 34 ls [])) {Tt : Gp} {x2 : Int32} {H : Heap} {locs : List Loc} {ls : Array Slot} (hf : fX9_becomeLike_34 To rec34 Tt x2 = some (ot)) (hw : wl g A s.heap (gcT g zt Tt ++ (gcT g zo To)) H locs) (hl : lv_has ls 3 [(0, .ref (zt 0)), (1, .ref (zo 0)), (2, .int x2)]) : W p l e (rmK 0 0) s m args below meth c H locs 0 0 (MQ below (Qv g A (gcT g zt ot ++ (gcT g zo To))) args s 0 0 A) (F0 m 34 ls []) := by
  obtain ⟨hx, hb, hml, hown, hts, -⟩ := id C
  unfold fX9_becomeLike_34 at hf
  refine lv_iload_n hx hb dX9_becomeLike_34 rfl (lv_at hl 2 rfl) ?_
  refine lv_bipush (v := (6 : Int32)) hx hb dX9_becomeLike_35 rfl ?_
  refine lv_icmp_ge (tgt := 58) hx hb dX9_becomeLike_37 (by decide) (fun hc3 => ?_) (fun hc3 => ?_)
  · have hf := it_p hf hc3
    refine lv_iconst (v := (0 : Int32)) hx hb dX9_becomeLike_58 rfl ?_
    refine lv_istore_n (lv' := [(2, .int (0 : Int32)), (0, .ref (zt 0)), (1, .ref (zo 0))]) hx hb dX9_becomeLike_59 rfl hl (by decide) rfl (fun ls hl => ?_)
    exact klX9_becomeLike_60 (zo := zo) (zt := zt) (ot := ot) C fu _ _ _ _ _ hf hw (lv_sub hl [1, 2, 0] rfl)
  · have hf := it_n hf hc3
    refine lv_aload_n hx hb dX9_becomeLike_40 rfl (lv_at hl 0 rfl) ?_
    refine r_get C hw 0 rfl cf_X9 4 (by decide) q1_59 (v := .ref (zt 1)) rfl dX9_becomeLike_41 ?_
    refine lv_iload_n hx hb dX9_becomeLike_44 rfl (lv_at hl 2 rfl) ?_
    refine lv_aload_n hx hb dX9_becomeLike_45 rfl (lv_at hl 1 rfl) ?_
    refine r_get C hw 6 rfl cf_X9 4 (by decide) q1_59 (v := .ref (zo 1)) rfl dX9_becomeLike_46 ?_
    refine lv_iload_n hx hb dX9_becomeLike_49 rfl (lv_at hl 2 rfl) ?_
    obtain ⟨hi1, hf⟩ := it_g hf
    refine r_iald C hw 7 (f := (To 1)) rfl hi1 dX9_becomeLike_50 ?_
    obtain ⟨hi2, hf⟩ := it_g hf
    refine r_iast C hw 1 (f := (Tt 1)) rfl hi2 (ws' := (gcT g zt (u2 Tt 1 x2.toNatClampNeg (To 1 x2.toNatClampNeg)) ++ (gcT g zo To))) (set_l (Nat.le_of_ble_eq_true rfl) gcT_a1) dX9_becomeLike_51 (fun H locs hw => ?_)
    refine lv_iinc (v := (x2 + (1 : Int32))) (lv' := [(2, .int (x2 + (1 : Int32))), (0, .ref (zt 0)), (1, .ref (zo 0))]) hx hb dX9_becomeLike_52 hl (k := 2) rfl rfl (by decide) rfl (fun ls hl => ?_)
    refine lv_goto (tgt := 34) hx hb dX9_becomeLike_55 (by decide) ?_
    exact hr34 _ _ _ _ _ hf hw (lv_sub hl [1, 2, 0] rfl)
set_option maxRecDepth 100000 in
set_option maxHeartbeats 4000000 in
theorem klX9_becomeLike_34 {l : Launch} {g : evG} {p : Program} {e : Env} {s : State} {m : MethodId} {args : Array Value} {below : List Frame} {meth : Method} {c : Code} {A : Nat → Prop} {zo : Nat → Nat} {zt : Nat → Nat} {ot : Gp} (C : ctx g p s m args meth c RX9 cX9_becomeLike 3 none A) {To : Gp} : ∀ (n : Nat) (Tt : Gp) (x2 : Int32) (H : Heap) (locs : List Loc) (ls : Array Slot), lX9_becomeLike_34 To n Tt x2 = some (ot) → wl g A s.heap (gcT g zt Tt ++ (gcT g zo To)) H locs → lv_has ls 3 [(0, .ref (zt 0)), (1, .ref (zo 0)), (2, .int x2)] → W p l e (rmK 0 0) s m args below meth c H locs 0 0 (MQ below (Qv g A (gcT g zt ot ++ (gcT g zo To))) args s 0 0 A) (F0 m 34 ls []) := by
  intro n
  induction n with
  | zero => intro _ _ _ _ _ hf; exact no_f hf
  | succ n ih => intro _ _ _ _ _ hf hw hl; exact kX9_becomeLike_34 (zo := zo) (zt := zt) (ot := ot) C (rec34 := lX9_becomeLike_34 To n) ih hf hw hl
set_option maxRecDepth 100000 in
set_option maxHeartbeats 4000000 in
theorem c_X9_becomeLike {l : Launch} {g : evG} {zo : Nat → Nat} {zt : Nat → Nat} {ot : Gp}  {Tt : Gp} {To : Gp} (hf : fX9_becomeLike Tt To = some (ot)) : CTv l g yX9_becomeLike (Cond.code yX9_becomeLike cX9_becomeLike 3 none) 0 0 [.ref (zt 0), .ref (zo 0)] (gcT g zt Tt ++ (gcT g zo To)) (gcT g zt ot ++ (gcT g zo To)) := by
  refine ct_v rfl (Nat.le_of_ble_eq_true rfl) ?_
  intro p e s m args below meth c A ls C hw hl
  have C : ctx g p s m args meth c RX9 cX9_becomeLike 3 none A := C
  have hl : lv_has ls 3 [(0, .ref (zt 0)), (1, .ref (zo 0))] := hl
  obtain ⟨hx, hb, hml, hown, hts, -⟩ := id C
  unfold fX9_becomeLike at hf
  refine lv_aload_n hx hb dX9_becomeLike_0 rfl (lv_at hl 0 rfl) ?_
  refine lv_aload_n hx hb dX9_becomeLike_1 rfl (lv_at hl 1 rfl) ?_
  refine r_get C hw 6 rfl cf_X9 0 (by decide) q1_41 (v := .int (To 0 0)) rfl dX9_becomeLike_2 ?_
  refine r_puti C hw 0 rfl cf_X9 0 (by decide) q1_41 rfl rfl (Nat.le_of_ble_eq_true rfl) (ws' := (gcT g zt (u2 Tt 0 0 (To 0 0)) ++ (gcT g zo To))) (set_l (Nat.le_of_ble_eq_true rfl) gcT_p0) dX9_becomeLike_5 (fun H locs hw => ?_)
  refine lv_aload_n hx hb dX9_becomeLike_8 rfl (lv_at hl 0 rfl) ?_
  refine lv_aload_n hx hb dX9_becomeLike_9 rfl (lv_at hl 1 rfl) ?_
  refine r_get C hw 6 rfl cf_X9 1 (by decide) q1_46 (v := .int (To 0 1)) rfl dX9_becomeLike_10 ?_
  refine r_puti C hw 0 rfl cf_X9 1 (by decide) q1_46 rfl rfl (Nat.le_of_ble_eq_true rfl) (ws' := (gcT g zt (u2 (u2 Tt 0 0 (To 0 0)) 0 1 (To 0 1)) ++ (gcT g zo To))) (set_l (Nat.le_of_ble_eq_true rfl) gcT_p1) dX9_becomeLike_13 (fun H locs hw => ?_)
  refine lv_aload_n hx hb dX9_becomeLike_16 rfl (lv_at hl 0 rfl) ?_
  refine lv_aload_n hx hb dX9_becomeLike_17 rfl (lv_at hl 1 rfl) ?_
  refine r_get C hw 6 rfl cf_X9 2 (by decide) q1_51 (v := .int (To 0 2)) rfl dX9_becomeLike_18 ?_
  refine r_puti C hw 0 rfl cf_X9 2 (by decide) q1_51 rfl rfl (Nat.le_of_ble_eq_true rfl) (ws' := (gcT g zt (u2 (u2 (u2 Tt 0 0 (To 0 0)) 0 1 (To 0 1)) 0 2 (To 0 2)) ++ (gcT g zo To))) (set_l (Nat.le_of_ble_eq_true rfl) gcT_p2) dX9_becomeLike_21 (fun H locs hw => ?_)
  refine lv_aload_n hx hb dX9_becomeLike_24 rfl (lv_at hl 0 rfl) ?_
  refine lv_aload_n hx hb dX9_becomeLike_25 rfl (lv_at hl 1 rfl) ?_
  refine r_get C hw 6 rfl cf_X9 3 (by decide) q1_55 (v := .int (To 0 3)) rfl dX9_becomeLike_26 ?_
  refine r_puti C hw 0 rfl cf_X9 3 (by decide) q1_55 rfl rfl (Nat.le_of_ble_eq_true rfl) (ws' := (gcT g zt (u2 (u2 (u2 (u2 Tt 0 0 (To 0 0)) 0 1 (To 0 1)) 0 2 (To 0 2)) 0 3 (To 0 3)) ++ (gcT g zo To))) (set_l (Nat.le_of_ble_eq_true rfl) gcT_p3) dX9_becomeLike_29 (fun H locs hw => ?_)
  refine lv_iconst (v := (0 : Int32)) hx hb dX9_becomeLike_32 rfl ?_
  refine lv_istore_n (lv' := [(2, .int (0 : Int32)), (0, .ref (zt 0)), (1, .ref (zo 0))]) hx hb dX9_becomeLike_33 rfl hl (by decide) rfl (fun ls hl => ?_)
  exact klX9_becomeLike_34 (zo := zo) (zt := zt) (ot := ot) C fu _ _ _ _ _ hf hw (lv_sub hl [1, 2, 0] rfl)
set_option maxRecDepth 100000 in
set_option maxHeartbeats 4000000 in
theorem c_X9_hasHour {l : Launch} {g : evG} {zt : Nat → Nat} {r : Int32}  {Tt : Gp} {x1 : Int32} (hf : fX9_hasHour Tt x1 = some (r)) : CTi l g yX9_hasHour (Cond.code yX9_hasHour cX9_hasHour 2 (some .boolean)) 1 22 [.ref (zt 0), .int x1] (gcT g zt Tt) (gcT g zt Tt) r := by
  refine ct_i rfl (Nat.le_of_ble_eq_true rfl) ?_
  intro p e s m args below meth c A ls C hw hl
  have C : ctx g p s m args meth c RX9 cX9_hasHour 2 (some .boolean) A := C
  have hl : lv_has ls 2 [(0, .ref (zt 0)), (1, .int x1)] := hl
  obtain ⟨hx, hb, hml, hown, hts, -⟩ := id C
  unfold fX9_hasHour at hf
  refine lv_iload_n hx hb dX9_hasHour_0 rfl (lv_at hl 1 rfl) ?_
  refine lv_iconst (v := (0 : Int32)) hx hb dX9_hasHour_1 rfl ?_
  refine lv_aload_n hx hb dX9_hasHour_2 rfl (lv_at hl 0 rfl) ?_
  refine r_get C hw 0 rfl cf_X9 1 (by decide) q1_46 (v := .int (Tt 0 1)) rfl dX9_hasHour_3 ?_
  refine lv_iconst (v := (1 : Int32)) hx hb dX9_hasHour_6 rfl ?_
  refine lv_isub hx hb dX9_hasHour_7 ?_
  obtain ⟨r1, hc2, hf⟩ := bd1_e hf
  refine r_callNi0 C hw (c_X10_within hc2) md_X10_within [] rfl rfl nq_30 ⟨Nat.le_of_ble_eq_true rfl, Nat.le_of_ble_eq_true rfl⟩ ⟨Nat.zero_le _, Nat.zero_le _⟩ hl.1 rfl rfl (Nat.le_of_ble_eq_true rfl) dX9_hasHour_8 (fun H locs hw => ?_)
  obtain ⟨hn, hf⟩ := it_g hf
  obtain rfl := so1 hf
  exact r_zret C hw rfl hn dX9_hasHour_11
