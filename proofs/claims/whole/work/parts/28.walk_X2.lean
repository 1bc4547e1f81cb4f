set_option maxRecDepth 100000 in
set_option maxHeartbeats 4000000 in
theorem c_X2_indexOf {l : Launch} {g : evG}  {r : Int32}  {x0 : Int32} {x1 : Int32} {x2 : Int32} (hf : fX2_indexOf x0 x1 x2 = some (r)) : CTi l g yX2_indexOf (Cond.code yX2_indexOf cX2_indexOf 3 (some .int)) 1 21 [.int x0, .int x1, .int x2] ([] : va_W) ([] : va_W) r := by
  refine ct_i rfl (Nat.le_of_ble_eq_true rfl) ?_
  intro p e s m args below meth c A ls C hw hl
  have C : ctx g p s m args meth c RX2 cX2_indexOf 3 (some .int) A := C
  have hl : lv_has ls 3 [(0, .int x0), (1, .int x1), (2, .int x2)] := hl
  obtain ⟨hx, hb, hml, hown, hts, -⟩ := id C
  unfold fX2_indexOf at hf
  refine lv_iload_n hx hb dX2_indexOf_0 rfl (lv_at hl 0 rfl) ?_
  refine lv_bipush (v := (6 : Int32)) hx hb dX2_indexOf_1 rfl ?_
  refine lv_imul hx hb dX2_indexOf_3 ?_
  refine lv_iload_n hx hb dX2_indexOf_4 rfl (lv_at hl 1 rfl) ?_
  refine lv_iload_n hx hb dX2_indexOf_5 rfl (lv_at hl 2 rfl) ?_
  refine r_mmin C hl.1 q4_68 q4_13 q1_18 q4_14 (Nat.le_of_ble_eq_true rfl) (Nat.le_of_ble_eq_true rfl) (Nat.zero_le _) (Nat.zero_le _) dX2_indexOf_6 ?_
  refine lv_iadd hx hb dX2_indexOf_9 ?_
  refine lv_bipush (v := (6 : Int32)) hx hb dX2_indexOf_10 rfl ?_
  refine lv_imul hx hb dX2_indexOf_12 ?_
  refine lv_iload_n hx hb dX2_indexOf_13 rfl (lv_at hl 1 rfl) ?_
  refine lv_iload_n hx hb dX2_indexOf_14 rfl (lv_at hl 2 rfl) ?_
  refine r_mmax C hl.1 q4_69 q3_206 q1_18 q3_207 (Nat.le_of_ble_eq_true rfl) (Nat.le_of_ble_eq_true rfl) (Nat.zero_le _) (Nat.zero_le _) dX2_indexOf_15 ?_
  refine lv_iadd hx hb dX2_indexOf_18 ?_
  obtain rfl := so1 hf
  exact r_iret C hw rfl dX2_indexOf_19
set_option maxRecDepth 100000 in
set_option maxHeartbeats 4000000 in
theorem c_X2_changeLiking {l : Launch} {g : evG} {zg : Nat → Nat} {r : Int32} {og : Gp}  {Tg : Gp} {x1 : Int32} {x2 : Int32} {x3 : Int32} {x4 : Int32} (hf : fX2_changeLiking Tg x1 x2 x3 x4 = some (r, og)) : CTi l g yX2_changeLiking (Cond.code yX2_changeLiking cX2_changeLiking 7 (some .int)) 2 43 [.ref (zg 0), .int x1, .int x2, .int x3, .int x4] (gcG g zg Tg) (gcG g zg og) r := by
  refine ct_i rfl (Nat.le_of_ble_eq_true rfl) ?_
  intro p e s m args below meth c A ls C hw hl
  have C : ctx g p s m args meth c RX2 cX2_changeLiking 7 (some .int) A := C
  have hl : lv_has ls 7 [(0, .ref (zg 0)), (1, .int x1), (2, .int x2), (3, .int x3), (4, .int x4)] := hl
  obtain ⟨hx, hb, hml, hown, hts, -⟩ := id C
  unfold fX2_changeLiking at hf
  refine lv_iload_n hx hb dX2_changeLiking_0 rfl (lv_at hl 1 rfl) ?_
  refine lv_iload_n hx hb dX2_changeLiking_1 rfl (lv_at hl 2 rfl) ?_
  refine lv_iload_n hx hb dX2_changeLiking_2 rfl (lv_at hl 3 rfl) ?_
  obtain ⟨r1, hc2, hf⟩ := bd1_e hf
  refine r_callSi0 C hw (c_X2_indexOf hc2) md_X2_indexOf [] rfl rfl q4_65 ⟨Nat.le_of_ble_eq_true rfl, Nat.le_of_ble_eq_true rfl⟩ ⟨Nat.zero_le _, Nat.zero_le _⟩ hl.1 rfl rfl (Nat.le_of_ble_eq_true rfl) dX2_changeLiking_3 (fun H locs hw => ?_)
  refine lv_istore (lv' := [(5, .int r1), (0, .ref (zg 0)), (1, .int x1), (2, .int x2), (3, .int x3), (4, .int x4)]) hx hb dX2_changeLiking_6 hl (by decide) rfl (fun ls hl => ?_)
  refine lv_iload hx hb dX2_changeLiking_8 (lv_at hl 0 rfl) ?_
  refine lv_iconst (v := (0 : Int32)) hx hb dX2_changeLiking_10 rfl ?_
  refine lv_aload_n hx hb dX2_changeLiking_11 rfl (lv_at hl 1 rfl) ?_
  refine r_get C hw 0 rfl cf_X2 0 (by decide) q1_226 (v := .ref (zg 1)) rfl dX2_changeLiking_12 ?_
  refine r_alen C hw 1 0 rfl rfl (v := (72 : Int32)) rfl dX2_changeLiking_15 ?_
  refine lv_iconst (v := (1 : Int32)) hx hb dX2_changeLiking_16 rfl ?_
  refine lv_isub hx hb dX2_changeLiking_17 ?_
  obtain ⟨r3, hc4, hf⟩ := bd1_e hf
  refine r_callNi0 C hw (c_X10_within hc4) md_X10_within [] rfl rfl nq_38 ⟨Nat.le_of_ble_eq_true rfl, Nat.le_of_ble_eq_true rfl⟩ ⟨Nat.zero_le _, Nat.zero_le _⟩ hl.1 rfl rfl (Nat.le_of_ble_eq_true rfl) dX2_changeLiking_18 (fun H locs hw => ?_)
  refine lv_if_ne (tgt := 26) hx hb dX2_changeLiking_21 (by decide) (fun hc7 => ?_) (fun hc7 => ?_)
  · have hf := it_n hf hc7
    refine lv_aload_n hx hb dX2_changeLiking_26 rfl (lv_at hl 1 rfl) ?_
    refine r_get C hw 0 rfl cf_X2 0 (by decide) q1_226 (v := .ref (zg 1)) rfl dX2_changeLiking_27 ?_
    refine lv_iload hx hb dX2_changeLiking_30 (lv_at hl 0 rfl) ?_
    obtain ⟨hi5, hf⟩ := it_g hf
    refine r_iald C hw 1 (f := (Tg 1)) rfl hi5 dX2_changeLiking_32 ?_
    refine lv_istore (lv' := [(6, .int (Tg 1 r1.toNatClampNeg)), (5, .int r1), (0, .ref (zg 0)), (1, .int x1), (2, .int x2), (3, .int x3), (4, .int x4)]) hx hb dX2_changeLiking_33 hl (by decide) rfl (fun ls hl => ?_)
    refine lv_aload_n hx hb dX2_changeLiking_35 rfl (lv_at hl 2 rfl) ?_
    refine r_get C hw 0 rfl cf_X2 0 (by decide) q1_226 (v := .ref (zg 1)) rfl dX2_changeLiking_36 ?_
    refine lv_iload hx hb dX2_changeLiking_39 (lv_at hl 1 rfl) ?_
    refine lv_iload hx hb dX2_changeLiking_41 (lv_at hl 6 rfl) ?_
    obtain ⟨hi6, hf⟩ := it_g hf
    refine r_iast C hw 1 (f := (Tg 1)) rfl hi6 (ws' := (gcG g zg (u2 Tg 1 r1.toNatClampNeg x4))) gcG_a1 dX2_changeLiking_43 (fun H locs hw => ?_)
    refine lv_iload hx hb dX2_changeLiking_44 (lv_at hl 0 rfl) ?_
    obtain ⟨rfl, rfl⟩ := so2 hf
    exact r_iret C hw rfl dX2_changeLiking_46
  · have hf := it_p hf hc7
    refine lv_iconst (v := (0 : Int32)) hx hb dX2_changeLiking_24 rfl ?_
    obtain ⟨rfl, rfl⟩ := so2 hf
    exact r_iret C hw rfl dX2_changeLiking_25
set_option maxRecDepth 100000 in
set_option maxHeartbeats 4000000 in
theorem c_X2_greatestKnown {l : Launch} {g : evG} {zg : Nat → Nat} {r : Int32}  {Tg : Gp} {x1 : Int32} (hf : fX2_greatestKnown Tg x1 = some (r)) : CTi l g yX2_greatestKnown (Cond.code yX2_greatestKnown cX2_greatestKnown 2 (some .int)) 1 22 [.ref (zg 0), .int x1] (gcG g zg Tg) (gcG g zg Tg) r := by
  refine ct_i rfl (Nat.le_of_ble_eq_true rfl) ?_
  intro p e s m args below meth c A ls C hw hl
  have C : ctx g p s m args meth c RX2 cX2_greatestKnown 2 (some .int) A := C
  have hl : lv_has ls 2 [(0, .ref (zg 0)), (1, .int x1)] := hl
  obtain ⟨hx, hb, hml, hown, hts, -⟩ := id C
  unfold fX2_greatestKnown at hf
  refine lv_iload_n hx hb dX2_greatestKnown_0 rfl (lv_at hl 1 rfl) ?_
  refine lv_iconst (v := (0 : Int32)) hx hb dX2_greatestKnown_1 rfl ?_
  refine lv_bipush (v := (63 : Int32)) hx hb dX2_greatestKnown_2 rfl ?_
  obtain ⟨r1, hc2, hf⟩ := bd1_e hf
  refine r_callNi0 C hw (c_X10_within hc2) md_X10_within [] rfl rfl nq_38 ⟨Nat.le_of_ble_eq_true rfl, Nat.le_of_ble_eq_true rfl⟩ ⟨Nat.zero_le _, Nat.zero_le _⟩ hl.1 rfl rfl (Nat.le_of_ble_eq_true rfl) dX2_greatestKnown_4 (fun H locs hw => ?_)
  refine lv_if_eq (tgt := 19) hx hb dX2_greatestKnown_7 (by decide) (fun hc4 => ?_) (fun hc4 => ?_)
  · have hf := it_p hf hc4
    refine lv_iconst (v := (0 : Int32)) hx hb dX2_greatestKnown_19 rfl ?_
    obtain rfl := so1 hf
    exact r_iret C hw rfl dX2_greatestKnown_20
  · have hf := it_n hf hc4
    refine lv_aload_n hx hb dX2_greatestKnown_10 rfl (lv_at hl 0 rfl) ?_
    refine r_get C hw 0 rfl cf_X2 1 (by decide) q1_227 (v := .ref (zg 2)) rfl dX2_greatestKnown_11 ?_
    refine lv_iload_n hx hb dX2_greatestKnown_14 rfl (lv_at hl 1 rfl) ?_
    obtain ⟨hi3, hf⟩ := it_g hf
    refine r_iald C hw 2 (f := (Tg 2)) rfl hi3 dX2_greatestKnown_15 ?_
    refine lv_goto (tgt := 20) hx hb dX2_greatestKnown_16 (by decide) ?_
    obtain rfl := so1 hf
    exact r_iret C hw rfl dX2_greatestKnown_20
set_option maxRecDepth 100000 in
set_option maxHeartbeats 4000000 in
theorem kX2_valueOf_51 {l : Launch} {g : evG} {p : Program} {e : Env} {s : State} {m : MethodId} {args : Array Value} {below : List Frame} {meth : Method} {c : Code} {A : Nat → Prop} {zg : Nat → Nat} {r : Int32} (C : ctx g p s m args meth c RX2 cX2_valueOf 6 (some .int) A) {Tg : Gp} {x3 : Int32} {x4 : Int32} {y0 : Int32} {H : Heap} {locs : List Loc} {ls : Array Slot} (hf : fX2_valueOf_51 Tg x3 x4 y0 = some (r)) (hw : wl g A s.heap (gcG g zg Tg) H locs) (hl : lv_has ls 6 [(0, .ref (zg 0)), (3, .int x3), (4, .int x4)]) : W p l e (rmK 2 43) s m args below meth c H locs 0 0 (MQ below (Qi g A (gcG g zg Tg) r) args s 0 0 A) (F0 m 51 ls [.int y0]) := by
  obtain ⟨hx, hb, hml, hown, hts, -⟩ := id C
  unfold fX2_valueOf_51 at hf
  refine lv_istore (lv' := [(5, .int y0), (0, .ref (zg 0)), (3, .int x3), (4, .int x4)]) hx hb dX2_valueOf_51 hl (by decide) rfl (fun ls hl => ?_)
  refine lv_iload hx hb dX2_valueOf_53 (lv_at hl 0 rfl) ?_
  refine lv_if_eq (tgt := 81) hx hb dX2_valueOf_55 (by decide) (fun hc3 => ?_) (fun hc3 => ?_)
  · have hf := it_p hf hc3
    refine lv_iconst (v := (1 : Int32)) hx hb dX2_valueOf_81 rfl ?_
    obtain rfl := so1 hf
    exact r_iret C hw rfl dX2_valueOf_82
  · have hf := it_n hf hc3
    refine lv_aload_n hx hb dX2_valueOf_58 rfl (lv_at hl 1 rfl) ?_
    refine r_get C hw 0 rfl cf_X2 0 (by decide) q1_226 (v := .ref (zg 1)) rfl dX2_valueOf_59 ?_
    refine lv_iload_n hx hb dX2_valueOf_62 rfl (lv_at hl 2 rfl) ?_
    obtain ⟨hi1, hf⟩ := it_g hf
    refine r_iald C hw 1 (f := (Tg 1)) rfl hi1 dX2_valueOf_63 ?_
    refine lv_aload_n hx hb dX2_valueOf_64 rfl (lv_at hl 1 rfl) ?_
    refine r_get C hw 0 rfl cf_X2 0 (by decide) q1_226 (v := .ref (zg 1)) rfl dX2_valueOf_65 ?_
    refine lv_iload hx hb dX2_valueOf_68 (lv_at hl 3 rfl) ?_
    obtain ⟨hi2, hf⟩ := it_g hf
    refine r_iald C hw 1 (f := (Tg 1)) rfl hi2 dX2_valueOf_70 ?_
    refine r_mmin C hl.1 q4_68 q4_13 q1_18 q4_14 (Nat.le_of_ble_eq_true rfl) (Nat.le_of_ble_eq_true rfl) (Nat.zero_le _) (Nat.zero_le _) dX2_valueOf_71 ?_
    refine lv_iconst (v := (4 : Int32)) hx hb dX2_valueOf_74 rfl ?_
    refine lv_imul hx hb dX2_valueOf_75 ?_
    refine lv_iconst (v := (1 : Int32)) hx hb dX2_valueOf_76 rfl ?_
    refine lv_iadd hx hb dX2_valueOf_77 ?_
    refine lv_goto (tgt := 82) hx hb dX2_valueOf_78 (by decide) ?_
    obtain rfl := so1 hf
    exact r_iret C hw rfl dX2_valueOf_82
set_option maxRecDepth 100000 in
set_option maxHeartbeats 4000000 in
theorem kX2_valueOf_50 {l : Launch} {g : evG} {p : Program} {e : Env} {s : State} {m : MethodId} {args : Array Value} {below : List Frame} {meth : Method} {c : Code} {A : Nat → Prop} {zg : Nat → Nat} {r : Int32} (C : ctx g p s m args meth c RX2 cX2_valueOf 6 (some .int) A) {Tg : Gp} {x3 : Int32} {x4 : Int32} {H : Heap} {locs : List Loc} {ls : Array Slot} (hf : fX2_valueOf_50 Tg x3 x4 = some (r)) (hw : wl g A s.heap (gcG g zg Tg) H locs) (hl : lv_has ls 6 [(0, .ref (zg 0)), (3, .int x3), (4, .int x4)]) : W p l e (rmK 2 43) s m args below meth c H locs 0 0 (MQ below (Qi g A (gcG g zg Tg) r) args s 0 0 A) (F0 m 50 ls []) := by
  obtain ⟨hx, hb, hml, hown, hts, -⟩ := id C
  unfold fX2_valueOf_50 at hf
  refine lv_iconst (v := (0 : Int32)) hx hb dX2_valueOf_50 rfl ?_
  exact kX2_valueOf_51 (zg := zg) (r := r) C hf hw (lv_sub hl [0, 1, 2] rfl)
set_option maxRecDepth 100000 in
set_option maxHeartbeats 4000000 in
theorem c_X2_valueOf {l : Launch} {g : evG} {zg : Nat → Nat} {r : Int32}  {Tg : Gp} {x1 : Int32} {x2 : Int32} (hf : fX2_valueOf Tg x1 x2 = some (r)) : CTi l g yX2_valueOf (Cond.code yX2_valueOf cX2_valueOf 6 (some .int)) 2 43 [.ref (zg 0), .int x1, .int x2] (gcG g zg Tg) (gcG g zg Tg) r := by
  refine ct_i rfl (Nat.le_of_ble_eq_true rfl) ?_
  intro p e s m args below meth c A ls C hw hl
  have C : ctx g p s m args meth c RX2 cX2_valueOf 6 (some .int) A := C
  have hl : lv_has ls 6 [(0, .ref (zg 0)), (1, .int x1), (2, .int x2)] := hl
  obtain ⟨hx, hb, hml, hown, hts, -⟩ := id C
  unfold fX2_valueOf at hf
  refine lv_iconst (v := (0 : Int32)) hx hb dX2_valueOf_0 rfl ?_
  refine lv_iload_n hx hb dX2_valueOf_1 rfl (lv_at hl 1 rfl) ?_
  refine lv_iload_n hx hb dX2_valueOf_2 rfl (lv_at hl 2 rfl) ?_
  obtain ⟨r1, hc2, hf⟩ := bd1_e hf
  refine r_callSi0 C hw (c_X2_indexOf hc2) md_X2_indexOf [] rfl rfl q4_65 ⟨Nat.le_of_ble_eq_true rfl, Nat.le_of_ble_eq_true rfl⟩ ⟨Nat.zero_le _, Nat.zero_le _⟩ hl.1 rfl rfl (Nat.le_of_ble_eq_true rfl) dX2_valueOf_3 (fun H locs hw => ?_)
  refine lv_istore_n (lv' := [(3, .int r1), (0, .ref (zg 0)), (1, .int x1), (2, .int x2)]) hx hb dX2_valueOf_6 rfl hl (by decide) rfl (fun ls hl => ?_)
  refine lv_iconst (v := (1 : Int32)) hx hb dX2_valueOf_7 rfl ?_
  refine lv_iload_n hx hb dX2_valueOf_8 rfl (lv_at hl 2 rfl) ?_
  refine lv_iload_n hx hb dX2_valueOf_9 rfl (lv_at hl 3 rfl) ?_
  obtain ⟨r3, hc4, hf⟩ := bd1_e hf
  refine r_callSi0 C hw (c_X2_indexOf hc4) md_X2_indexOf [] rfl rfl q4_65 ⟨Nat.le_of_ble_eq_true rfl, Nat.le_of_ble_eq_true rfl⟩ ⟨Nat.zero_le _, Nat.zero_le _⟩ hl.1 rfl rfl (Nat.le_of_ble_eq_true rfl) dX2_valueOf_10 (fun H locs hw => ?_)
  refine lv_istore (lv' := [(4, .int r3), (3, .int r1), (0, .ref (zg 0)), (1, .int x1), (2, .int x2)]) hx hb dX2_valueOf_13 hl (by decide) rfl (fun ls hl => ?_)
  refine lv_iload_n hx hb dX2_valueOf_15 rfl (lv_at hl 1 rfl) ?_
  refine lv_iconst (v := (0 : Int32)) hx hb dX2_valueOf_16 rfl ?_
  refine lv_aload_n hx hb dX2_valueOf_17 rfl (lv_at hl 2 rfl) ?_
  refine r_get C hw 0 rfl cf_X2 0 (by decide) q1_226 (v := .ref (zg 1)) rfl dX2_valueOf_18 ?_
  refine r_alen C hw 1 0 rfl rfl (v := (72 : Int32)) rfl dX2_valueOf_21 ?_
  refine lv_iconst (v := (1 : Int32)) hx hb dX2_valueOf_22 rfl ?_
  refine lv_isub hx hb dX2_valueOf_23 ?_
  obtain ⟨r5, hc6, hf⟩ := bd1_e hf
  refine r_callNi0 C hw (c_X10_within hc6) md_X10_within [] rfl rfl nq_38 ⟨Nat.le_of_ble_eq_true rfl, Nat.le_of_ble_eq_true rfl⟩ ⟨Nat.zero_le _, Nat.zero_le _⟩ hl.1 rfl rfl (Nat.le_of_ble_eq_true rfl) dX2_valueOf_24 (fun H locs hw => ?_)
  refine lv_if_eq (tgt := 50) hx hb dX2_valueOf_27 (by decide) (fun hc10 => ?_) (fun hc10 => ?_)
  · have hf := it_p hf hc10
    exact kX2_valueOf_50 (zg := zg) (r := r) C hf hw (lv_sub hl [2, 1, 0] rfl)
  · have hf := it_n hf hc10
    refine lv_iload hx hb dX2_valueOf_30 (lv_at hl 0 rfl) ?_
    refine lv_iconst (v := (0 : Int32)) hx hb dX2_valueOf_32 rfl ?_
    refine lv_aload_n hx hb dX2_valueOf_33 rfl (lv_at hl 2 rfl) ?_
    refine r_get C hw 0 rfl cf_X2 0 (by decide) q1_226 (v := .ref (zg 1)) rfl dX2_valueOf_34 ?_
    refine r_alen C hw 1 0 rfl rfl (v := (72 : Int32)) rfl dX2_valueOf_37 ?_
    refine lv_iconst (v := (1 : Int32)) hx hb dX2_valueOf_38 rfl ?_
    refine lv_isub hx hb dX2_valueOf_39 ?_
    obtain ⟨r7, hc8, hf⟩ := bd1_e hf
    refine r_callNi0 C hw (c_X10_within hc8) md_X10_within [] rfl rfl nq_38 ⟨Nat.le_of_ble_eq_true rfl, Nat.le_of_ble_eq_true rfl⟩ ⟨Nat.zero_le _, Nat.zero_le _⟩ hl.1 rfl rfl (Nat.le_of_ble_eq_true rfl) dX2_valueOf_40 (fun H locs hw => ?_)
    refine lv_if_eq (tgt := 50) hx hb dX2_valueOf_43 (by decide) (fun hc9 => ?_) (fun hc9 => ?_)
    · have hf := it_p hf hc9
      exact kX2_valueOf_50 (zg := zg) (r := r) C hf hw (lv_sub hl [2, 1, 0] rfl)
    · have hf := it_n hf hc9
      refine lv_iconst (v := (1 : Int32)) hx hb dX2_valueOf_46 rfl ?_
      refine lv_goto (tgt := 51) hx hb dX2_valueOf_47 (by decide) ?_
      exact kX2_valueOf_51 (zg := zg) (r := r) C hf hw (lv_sub hl [2, 1, 0] rfl)
set_option maxRecDepth 100000 in
set_option maxHeartbeats 4000000 in
theorem kX2_greatestOfSet_27 {l : Launch} {g : evG} {p : Program} {e : Env} {s : State} {m : MethodId} {args : Array Value} {below : List Frame} {meth : Method} {c : Code} {A : Nat → Prop} {zg : Nat → Nat} {r : Int32} (C : ctx g p s m args meth c RX2 cX2_greatestOfSet 8 (some .int) A) {Tg : Gp} {rec27 : Int32 → Int32 → Int32 → Int32 → Int32 → Option (Int32)} (hr27 : ∀ (x2 : Int32) (x3 : Int32) (x4 : Int32) (x5 : Int32) (x6 : Int32) (H : Heap) (locs : List Loc) (ls : Array Slot), rec27 x2 x3 x4 x5 x6 = some (r) → wl g A s.heap (gcG g zg Tg) H locs → lv_has ls 8 [(0, .ref (zg 0)), (2, .int x2), (3, .int x3), (4, .int x4), (5, .int x5), (6, .int x6)] → W p l e (rmK 3 68) s m args below meth c H locs 0 0 (MQ below (Qi g A (gcG g zg Tg) r) args s 0 0 A) (F0 m 27 ls [])) {x2 : Int32} {x3 : Int32} {x4 : Int32} {x5 : Int32} {x6 : Int32} {H : Heap} {locs : List Loc} {ls : Array Slot} (hf : fX2_greatestOfSet_27 Tg rec27 x2 x3 x4 x5 x6 = some (r)) (hw : wl g A s.heap (gcG g zg Tg) H locs) (hl : lv_has ls 8 [(0, .ref (zg 0)), (2, .int x2), (3, .int x3), (4, .int x4), (5, .int x5), (6, .int x6)]) : W p l e (rmK 3 68) s m args below meth c H locs 0 0 (MQ below (Qi g A (gcG g zg Tg) r) args s 0 0 A) (F0 m 27 ls []) := by
  obtain ⟨hx, hb, hml, hown, hts, -⟩ := id C
  unfold fX2_greatestOfSet_27 at hf
  refine lv_iload hx hb dX2_greatestOfSet_27 (lv_at hl 5 rfl) ?_
  refine lv_iload_n hx hb dX2_greatestOfSet_29 rfl (lv_at hl 1 rfl) ?_
  refine lv_icmp_ge (tgt := 77) hx hb dX2_greatestOfSet_30 (by decide) (fun hc6 => ?_) (fun hc6 => ?_)
  · have hf := it_p hf hc6
    refine lv_iload hx hb dX2_greatestOfSet_77 (lv_at hl 4 rfl) ?_
    obtain rfl := so1 hf
    exact r_iret C hw rfl dX2_greatestOfSet_79
  · have hf := it_n hf hc6
    refine lv_iload_n hx hb dX2_greatestOfSet_33 rfl (lv_at hl 2 rfl) ?_
    refine lv_iconst (v := (1 : Int32)) hx hb dX2_greatestOfSet_34 rfl ?_
    refine lv_iload hx hb dX2_greatestOfSet_35 (lv_at hl 5 rfl) ?_
    refine lv_ishl hx hb dX2_greatestOfSet_37 ?_
    refine lv_iconst (v := (-1 : Int32)) hx hb dX2_greatestOfSet_38 rfl ?_
    refine lv_ixor hx hb dX2_greatestOfSet_39 ?_
    refine lv_iand hx hb dX2_greatestOfSet_40 ?_
    refine lv_istore (lv' := [(7, .int (x3 &&& (((1 : Int32) <<< (x6 &&& 31)) ^^^ (-1 : Int32)))), (0, .ref (zg 0)), (2, .int x2), (3, .int x3), (4, .int x4), (5, .int x5), (6, .int x6)]) hx hb dX2_greatestOfSet_41 hl (by decide) rfl (fun ls hl => ?_)
    refine lv_iload hx hb dX2_greatestOfSet_43 (lv_at hl 0 rfl) ?_
    refine lv_iload_n hx hb dX2_greatestOfSet_45 rfl (lv_at hl 3 rfl) ?_
    refine lv_icmp_eq (tgt := 71) hx hb dX2_greatestOfSet_46 (by decide) (fun hc5 => ?_) (fun hc5 => ?_)
    · have hf := it_p hf hc5
      refine lv_iinc (v := (x6 + (1 : Int32))) (lv' := [(6, .int (x6 + (1 : Int32))), (7, .int (x3 &&& (((1 : Int32) <<< (x6 &&& 31)) ^^^ (-1 : Int32)))), (0, .ref (zg 0)), (2, .int x2), (3, .int x3), (4, .int x4), (5, .int x5)]) hx hb dX2_greatestOfSet_71 hl (k := 6) rfl rfl (by decide) rfl (fun ls hl => ?_)
      refine lv_goto (tgt := 27) hx hb dX2_greatestOfSet_74 (by decide) ?_
      exact hr27 _ _ _ _ _ _ _ _ hf hw (lv_sub hl [2, 3, 4, 5, 6, 0] rfl)
    · have hf := it_n hf hc5
      refine lv_iload hx hb dX2_greatestOfSet_49 (lv_at hl 5 rfl) ?_
      refine lv_aload_n hx hb dX2_greatestOfSet_51 rfl (lv_at hl 1 rfl) ?_
      refine lv_iload hx hb dX2_greatestOfSet_52 (lv_at hl 0 rfl) ?_
      obtain ⟨r1, hc2, hf⟩ := bd1_e hf
      refine r_callVi0 C hw (c_X2_greatestKnown (zg := zg) hc2) md_X2_greatestKnown [0, 1, 2] rfl rfl q4_88 0 rfl cf_X2.1 ⟨Nat.le_of_ble_eq_true rfl, Nat.le_of_ble_eq_true rfl⟩ ⟨Nat.zero_le _, Nat.zero_le _⟩ hl.1 rfl rfl (Nat.le_of_ble_eq_true rfl) dX2_greatestOfSet_54 (fun H locs hw => ?_)
      refine lv_aload_n hx hb dX2_greatestOfSet_57 rfl (lv_at hl 1 rfl) ?_
      refine lv_iload hx hb dX2_greatestOfSet_58 (lv_at hl 4 rfl) ?_
      refine lv_iload hx hb dX2_greatestOfSet_60 (lv_at hl 6 rfl) ?_
      obtain ⟨r3, hc4, hf⟩ := bd1_e hf
      refine r_callVi0 C hw (c_X2_valueOf (zg := zg) hc4) md_X2_valueOf [0, 1, 2] rfl rfl q4_92 0 rfl cf_X2.1 ⟨Nat.le_of_ble_eq_true rfl, Nat.le_of_ble_eq_true rfl⟩ ⟨Nat.zero_le _, Nat.zero_le _⟩ hl.1 rfl rfl (Nat.le_of_ble_eq_true rfl) dX2_greatestOfSet_62 (fun H locs hw => ?_)
      refine lv_iadd hx hb dX2_greatestOfSet_65 ?_
      refine r_mmax C hl.1 q4_69 q3_206 q1_18 q3_207 (Nat.le_of_ble_eq_true rfl) (Nat.le_of_ble_eq_true rfl) (Nat.zero_le _) (Nat.zero_le _) dX2_greatestOfSet_66 ?_
      refine lv_istore (lv' := [(5, .int (imx x5 (r1 + r3))), (7, .int (x3 &&& (((1 : Int32) <<< (x6 &&& 31)) ^^^ (-1 : Int32)))), (0, .ref (zg 0)), (2, .int x2), (3, .int x3), (4, .int x4), (6, .int x6)]) hx hb dX2_greatestOfSet_69 hl (by decide) rfl (fun ls hl => ?_)
      refine lv_iinc (v := (x6 + (1 : Int32))) (lv' := [(6, .int (x6 + (1 : Int32))), (5, .int (imx x5 (r1 + r3))), (7, .int (x3 &&& (((1 : Int32) <<< (x6 &&& 31)) ^^^ (-1 : Int32)))), (0, .ref (zg 0)), (2, .int x2), (3, .int x3), (4, .int x4)]) hx hb dX2_greatestOfSet_71 hl (k := 6) rfl rfl (by decide) rfl (fun ls hl => ?_)
      refine lv_goto (tgt := 27) hx hb dX2_greatestOfSet_74 (by decide) ?_
      exact hr27 _ _ _ _ _ _ _ _ hf hw (lv_sub hl [3, 4, 5, 6, 1, 0] rfl)
set_option maxRecDepth 100000 in
set_option maxHeartbeats 4000000 in
theorem klX2_greatestOfSet_27 {l : Launch} {g : evG} {p : Program} {e : Env} {s : State} {m : MethodId} {args : Array Value} {below : List Frame} {meth : Method} {c : Code} {A : Nat → Prop} {zg : Nat → Nat} {r : Int32} (C : ctx g p s m args meth c RX2 cX2_greatestOfSet 8 (some .int) A) {Tg : Gp} : ∀ (n : Nat) (x2 : Int32) (x3 : Int32) (x4 : Int32) (x5 : Int32) (x6 : Int32) (H : Heap) (locs : List Loc) (ls : Array Slot), lX2_greatestOfSet_27 Tg n x2 x3 x4 x5 x6 = some (r) → wl g A s.heap (gcG g zg Tg) H locs → lv_has ls 8 [(0, .ref (zg 0)), (2, .int x2), (3, .int x3), (4, .int x4), (5, .int x5), (6, .int x6)] → W p l e (rmK 3 68) s m args below meth c H locs 0 0 (MQ below (Qi g A (gcG g zg Tg) r) args s 0 0 A) (F0 m 27 ls []) := by
  intro n
  induction n with
  | zero => intro _ _ _ _ _ _ _ _ hf; exact no_f hf
  | succ n ih => intro _ _ _ _ _ _ _ _ hf hw hl; exact kX2_greatestOfSet_27 (zg := zg) (r := r) C (rec27 := lX2_greatestOfSet_27 Tg n) ih hf hw hl
set_option maxRecDepth 100000 in
set_option maxHeartbeats 4000000 in
theorem c_X2_greatestOfSet {l : Launch} {g : evG} {zg : Nat → Nat} {r : Int32}  {Tg : Gp} {x1 : Int32} {x2 : Int32} (hf : fX2_greatestOfSet Tg x1 x2 = some (r)) : CTi l g yX2_greatestOfSet (Cond.code yX2_greatestOfSet cX2_greatestOfSet 8 (some .int)) 3 68 [.ref (zg 0), .int x1, .int x2] (gcG g zg Tg) (gcG g zg Tg) r := by
  refine ct_i rfl (Nat.le_of_ble_eq_true rfl) ?_
  intro p e s m args below meth c A ls C hw hl
  have C : ctx g p s m args meth c RX2 cX2_greatestOfSet 8 (some .int) A := C
  have hl : lv_has ls 8 [(0, .ref (zg 0)), (1, .int x1), (2, .int x2)] := hl
  obtain ⟨hx, hb, hml, hown, hts, -⟩ := id C
  unfold fX2_greatestOfSet at hf
  refine lv_iload_n hx hb dX2_greatestOfSet_0 rfl (lv_at hl 1 rfl) ?_
  refine lv_iload_n hx hb dX2_greatestOfSet_1 rfl (lv_at hl 1 rfl) ?_
  refine lv_iconst (v := (1 : Int32)) hx hb dX2_greatestOfSet_2 rfl ?_
  refine lv_isub hx hb dX2_greatestOfSet_3 ?_
  refine lv_iand hx hb dX2_greatestOfSet_4 ?_
  refine lv_istore_n (lv' := [(3, .int (x1 &&& (x1 - (1 : Int32)))), (0, .ref (zg 0)), (1, .int x1), (2, .int x2)]) hx hb dX2_greatestOfSet_5 rfl hl (by decide) rfl (fun ls hl => ?_)
  refine lv_iload_n hx hb dX2_greatestOfSet_6 rfl (lv_at hl 2 rfl) ?_
  refine lv_iload_n hx hb dX2_greatestOfSet_7 rfl (lv_at hl 2 rfl) ?_
  refine lv_ineg hx hb dX2_greatestOfSet_8 ?_
  refine lv_iand hx hb dX2_greatestOfSet_9 ?_
  refine lv_iconst (v := (1 : Int32)) hx hb dX2_greatestOfSet_10 rfl ?_
  refine lv_isub hx hb dX2_greatestOfSet_11 ?_
  refine r_callSi0 C hw (c_bitCount (x := ((x1 &&& (-x1)) - (1 : Int32)))) md_J6_bitCount_0f7a4 [] rfl rfl q4_87 ⟨Nat.le_of_ble_eq_true rfl, Nat.le_of_ble_eq_true rfl⟩ ⟨Nat.zero_le _, Nat.zero_le _⟩ hl.1 rfl rfl (Nat.le_of_ble_eq_true rfl) dX2_greatestOfSet_12 (fun H locs hw => ?_)
  refine lv_istore (lv' := [(4, .int (ev_bc ((x1 &&& (-x1)) - (1 : Int32)))), (3, .int (x1 &&& (x1 - (1 : Int32)))), (0, .ref (zg 0)), (1, .int x1), (2, .int x2)]) hx hb dX2_greatestOfSet_15 hl (by decide) rfl (fun ls hl => ?_)
  refine lv_aload_n hx hb dX2_greatestOfSet_17 rfl (lv_at hl 2 rfl) ?_
  refine lv_iload_n hx hb dX2_greatestOfSet_18 rfl (lv_at hl 1 rfl) ?_
  obtain ⟨r1, hc2, hf⟩ := bd1_e hf
  refine r_callVi0 C hw (c_X2_greatestKnown (zg := zg) hc2) md_X2_greatestKnown [0, 1, 2] rfl rfl q4_88 0 rfl cf_X2.1 ⟨Nat.le_of_ble_eq_true rfl, Nat.le_of_ble_eq_true rfl⟩ ⟨Nat.zero_le _, Nat.zero_le _⟩ hl.1 rfl rfl (Nat.le_of_ble_eq_true rfl) dX2_greatestOfSet_19 (fun H locs hw => ?_)
  refine lv_istore (lv' := [(5, .int r1), (4, .int (ev_bc ((x1 &&& (-x1)) - (1 : Int32)))), (3, .int (x1 &&& (x1 - (1 : Int32)))), (0, .ref (zg 0)), (1, .int x1), (2, .int x2)]) hx hb dX2_greatestOfSet_22 hl (by decide) rfl (fun ls hl => ?_)
  refine lv_iconst (v := (0 : Int32)) hx hb dX2_greatestOfSet_24 rfl ?_
  refine lv_istore (lv' := [(6, .int (0 : Int32)), (5, .int r1), (4, .int (ev_bc ((x1 &&& (-x1)) - (1 : Int32)))), (3, .int (x1 &&& (x1 - (1 : Int32)))), (0, .ref (zg 0)), (1, .int x1), (2, .int x2)]) hx hb dX2_greatestOfSet_25 hl (by decide) rfl (fun ls hl => ?_)
  exact klX2_greatestOfSet_27 (zg := zg) (r := r) C fu _ _ _ _ _ _ _ _ hf hw (lv_sub hl [4, 6, 3, 2, 1, 0] rfl)
set_option maxRecDepth 100000 in
set_option maxHeartbeats 4000000 in
theorem kX2_greatestOf_20 {l : Launch} {g : evG} {p : Program} {e : Env} {s : State} {m : MethodId} {args : Array Value} {below : List Frame} {meth : Method} {c : Code} {A : Nat → Prop} {zg : Nat → Nat} {r : Int32} {og : Gp} (C : ctx g p s m args meth c RX2 cX2_greatestOf 4 (some .int) A) {rec20 : Gp → Int32 → Int32 → Int32 → Option (Int32 × Gp)} (hr20 : ∀ (Tg : Gp) (x1 : Int32) (x2 : Int32) (x3 : Int32) (H : Heap) (locs : List Loc) (ls : Array Slot), rec20 Tg x1 x2 x3 = some (r, og) → wl g A s.heap (gcG g zg Tg) H locs → lv_has ls 4 [(0, .ref (zg 0)), (1, .int x1), (2, .int x2), (3, .int x3)] → W p l e (rmK 4 95) s m args below meth c H locs 0 0 (MQ below (Qi g A (gcG g zg og) r) args s 0 0 A) (F0 m 20 ls [])) {Tg : Gp} {x1 : Int32} {x2 : Int32} {x3 : Int32} {H : Heap} {locs : List Loc} {ls : Array Slot} (hf : fX2_greatestOf_20 rec20 Tg x1 x2 x3 = some (r, og)) (hw : wl g A s.heap (gcG g zg Tg) H locs) (hl : lv_has ls 4 [(0, .ref (zg 0)), (1, .int x1), (2, .int x2), (3, .int x3)]) : W p l e (rmK 4 95) s m args below meth c H locs 0 0 (MQ below (Qi g A (gcG g zg og) r) args s 0 0 A) (F0 m 20 ls []) := by
  obtain ⟨hx, hb, hml, hown, hts, -⟩ := id C
  unfold fX2_greatestOf_20 at hf
  refine lv_iload_n hx hb dX2_greatestOf_20 rfl (lv_at hl 3 rfl) ?_
  refine lv_iload_n hx hb dX2_greatestOf_21 rfl (lv_at hl 2 rfl) ?_
  refine lv_icmp_gt (tgt := 43) hx hb dX2_greatestOf_22 (by decide) (fun hc6 => ?_) (fun hc6 => ?_)
  · have hf := it_p hf hc6
    refine lv_aload_n hx hb dX2_greatestOf_43 rfl (lv_at hl 0 rfl) ?_
    refine lv_iload_n hx hb dX2_greatestOf_44 rfl (lv_at hl 2 rfl) ?_
    obtain ⟨r1, hc2, hf⟩ := bd1_e hf
    refine r_callVi0 C hw (c_X2_greatestKnown (zg := zg) hc2) md_X2_greatestKnown [0, 1, 2] rfl rfl q4_88 0 rfl cf_X2.1 ⟨Nat.le_of_ble_eq_true rfl, Nat.le_of_ble_eq_true rfl⟩ ⟨Nat.zero_le _, Nat.zero_le _⟩ hl.1 rfl rfl (Nat.le_of_ble_eq_true rfl) dX2_greatestOf_45 (fun H locs hw => ?_)
    obtain ⟨rfl, rfl⟩ := so2 hf
    exact r_iret C hw rfl dX2_greatestOf_48
  · have hf := it_n hf hc6
    refine lv_aload_n hx hb dX2_greatestOf_25 rfl (lv_at hl 0 rfl) ?_
    refine r_get C hw 0 rfl cf_X2 1 (by decide) q1_227 (v := .ref (zg 2)) rfl dX2_greatestOf_26 ?_
    refine lv_iload_n hx hb dX2_greatestOf_29 rfl (lv_at hl 3 rfl) ?_
    refine lv_aload_n hx hb dX2_greatestOf_30 rfl (lv_at hl 0 rfl) ?_
    refine lv_iload_n hx hb dX2_greatestOf_31 rfl (lv_at hl 3 rfl) ?_
    refine lv_iload_n hx hb dX2_greatestOf_32 rfl (lv_at hl 1 rfl) ?_
    obtain ⟨r3, hc4, hf⟩ := bd1_e hf
    refine r_callVi0 C hw (c_X2_greatestOfSet (zg := zg) hc4) md_X2_greatestOfSet [0, 1, 2] rfl rfl q4_83 0 rfl cf_X2.1 ⟨Nat.le_of_ble_eq_true rfl, Nat.le_of_ble_eq_true rfl⟩ ⟨Nat.zero_le _, Nat.zero_le _⟩ hl.1 rfl rfl (Nat.le_of_ble_eq_true rfl) dX2_greatestOf_33 (fun H locs hw => ?_)
    obtain ⟨hi5, hf⟩ := it_g hf
    refine r_iast C hw 2 (f := (Tg 2)) rfl hi5 (ws' := (gcG g zg (u2 Tg 2 x3.toNatClampNeg r3))) gcG_a2 dX2_greatestOf_36 (fun H locs hw => ?_)
    refine lv_iinc (v := (x3 + (1 : Int32))) (lv' := [(3, .int (x3 + (1 : Int32))), (0, .ref (zg 0)), (1, .int x1), (2, .int x2)]) hx hb dX2_greatestOf_37 hl (k := 3) rfl rfl (by decide) rfl (fun ls hl => ?_)
    refine lv_goto (tgt := 20) hx hb dX2_greatestOf_40 (by decide) ?_
    exact hr20 _ _ _ _ _ _ _ hf hw (lv_sub hl [1, 2, 3, 0] rfl)
set_option maxRecDepth 100000 in
set_option maxHeartbeats 4000000 in
theorem klX2_greatestOf_20 {l : Launch} {g : evG} {p : Program} {e : Env} {s : State} {m : MethodId} {args : Array Value} {below : List Frame} {meth : Method} {c : Code} {A : Nat → Prop} {zg : Nat → Nat} {r : Int32} {og : Gp} (C : ctx g p s m args meth c RX2 cX2_greatestOf 4 (some .int) A) : ∀ (n : Nat) (Tg : Gp) (x1 : Int32) (x2 : Int32) (x3 : Int32) (H : Heap) (locs : List Loc) (ls : Array Slot), lX2_greatestOf_20 n Tg x1 x2 x3 = some (r, og) → wl g A s.heap (gcG g zg Tg) H locs → lv_has ls 4 [(0, .ref (zg 0)), (1, .int x1), (2, .int x2), (3, .int x3)] → W p l e (rmK 4 95) s m args below meth c H locs 0 0 (MQ below (Qi g A (gcG g zg og) r) args s 0 0 A) (F0 m 20 ls []) := by
  intro n
  induction n with
  | zero => intro _ _ _ _ _ _ _ hf; exact no_f hf
  | succ n ih => intro _ _ _ _ _ _ _ hf hw hl; exact kX2_greatestOf_20 (zg := zg) (r := r) (og := og) C (rec20 := lX2_greatestOf_20 n) ih hf hw hl
set_option maxRecDepth 100000 in
set_option maxHeartbeats 4000000 in
theorem c_X2_greatestOf {l : Launch} {g : evG} {zg : Nat → Nat} {r : Int32} {og : Gp}  {Tg : Gp} {x1 : Int32} (hf : fX2_greatestOf Tg x1 = some (r, og)) : CTi l g yX2_greatestOf (Cond.code yX2_greatestOf cX2_greatestOf 4 (some .int)) 4 95 [.ref (zg 0), .int x1] (gcG g zg Tg) (gcG g zg og) r := by
  refine ct_i rfl (Nat.le_of_ble_eq_true rfl) ?_
  intro p e s m args below meth c A ls C hw hl
  have C : ctx g p s m args meth c RX2 cX2_greatestOf 4 (some .int) A := C
  have hl : lv_has ls 4 [(0, .ref (zg 0)), (1, .int x1)] := hl
  obtain ⟨hx, hb, hml, hown, hts, -⟩ := id C
  unfold fX2_greatestOf at hf
  refine lv_iconst (v := (1 : Int32)) hx hb dX2_greatestOf_0 rfl ?_
  refine lv_iload_n hx hb dX2_greatestOf_1 rfl (lv_at hl 1 rfl) ?_
  refine lv_ishl hx hb dX2_greatestOf_2 ?_
  refine lv_bipush (v := (64 : Int32)) hx hb dX2_greatestOf_3 rfl ?_
  refine r_mmin C hl.1 q4_68 q4_13 q1_18 q4_14 (Nat.le_of_ble_eq_true rfl) (Nat.le_of_ble_eq_true rfl) (Nat.zero_le _) (Nat.zero_le _) dX2_greatestOf_5 ?_
  refine lv_iconst (v := (1 : Int32)) hx hb dX2_greatestOf_8 rfl ?_
  refine lv_isub hx hb dX2_greatestOf_9 ?_
  refine lv_istore_n (lv' := [(2, .int ((imn ((1 : Int32) <<< (x1 &&& 31)) (64 : Int32)) - (1 : Int32))), (0, .ref (zg 0)), (1, .int x1)]) hx hb dX2_greatestOf_10 rfl hl (by decide) rfl (fun ls hl => ?_)
  refine lv_aload_n hx hb dX2_greatestOf_11 rfl (lv_at hl 1 rfl) ?_
  refine r_get C hw 0 rfl cf_X2 1 (by decide) q1_227 (v := .ref (zg 2)) rfl dX2_greatestOf_12 ?_
  refine lv_iconst (v := (0 : Int32)) hx hb dX2_greatestOf_15 rfl ?_
  refine lv_iconst (v := (0 : Int32)) hx hb dX2_greatestOf_16 rfl ?_
  refine r_iast C hw 2 (f := (Tg 2)) rfl (by decide) (ws' := (gcG g zg (u2 Tg 2 (0 : Int32).toNatClampNeg (0 : Int32)))) gcG_a2 dX2_greatestOf_17 (fun H locs hw => ?_)
  refine lv_iconst (v := (1 : Int32)) hx hb dX2_greatestOf_18 rfl ?_
  refine lv_istore_n (lv' := [(3, .int (1 : Int32)), (2, .int ((imn ((1 : Int32) <<< (x1 &&& 31)) (64 : Int32)) - (1 : Int32))), (0, .ref (zg 0)), (1, .int x1)]) hx hb dX2_greatestOf_19 rfl hl (by decide) rfl (fun ls hl => ?_)
  exact klX2_greatestOf_20 (zg := zg) (r := r) (og := og) C fu _ _ _ _ _ _ _ hf hw (lv_sub hl [2, 3, 1, 0] rfl)
set_option maxRecDepth 100000 in
set_option maxHeartbeats 4000000 in
theorem c_X2_greatestSum {l : Launch} {g : evG} {zg : Nat → Nat} {r : Int32} {og : Gp}  {Tg : Gp} {x1 : Int32} (hf : fX2_greatestSum Tg x1 = some (r, og)) : CTi l g yX2_greatestSum (Cond.code yX2_greatestSum cX2_greatestSum 2 (some .int)) 5 118 [.ref (zg 0), .int x1] (gcG g zg Tg) (gcG g zg og) r := by
  refine ct_i rfl (Nat.le_of_ble_eq_true rfl) ?_
  intro p e s m args below meth c A ls C hw hl
  have C : ctx g p s m args meth c RX2 cX2_greatestSum 2 (some .int) A := C
  have hl : lv_has ls 2 [(0, .ref (zg 0)), (1, .int x1)] := hl
  obtain ⟨hx, hb, hml, hown, hts, -⟩ := id C
  unfold fX2_greatestSum at hf
  refine lv_aload_n hx hb dX2_greatestSum_0 rfl (lv_at hl 0 rfl) ?_
  refine lv_iload_n hx hb dX2_greatestSum_1 rfl (lv_at hl 1 rfl) ?_
  obtain ⟨r1, Tg_2, hc3, hf⟩ := bd2_e hf
  refine r_callViF C hw (c_X2_greatestOf (zg := zg) hc3) md_X2_greatestOf [0, 1, 2] rfl rfl rfl rfl q4_79 0 rfl cf_X2.1 ⟨Nat.le_of_ble_eq_true rfl, Nat.le_of_ble_eq_true rfl⟩ ⟨Nat.zero_le _, Nat.zero_le _⟩ hl.1 rfl rfl (Nat.le_of_ble_eq_true rfl) dX2_greatestSum_2 (fun H locs hw => ?_)
  refine lv_iconst (v := (4 : Int32)) hx hb dX2_greatestSum_5 rfl ?_
  refine lv_idiv hx hb dX2_greatestSum_6 (by decide) ?_
  obtain ⟨rfl, rfl⟩ := so2 hf
  exact r_iret C hw rfl dX2_greatestSum_7
set_option maxRecDepth 100000 in
set_option maxHeartbeats 4000000 in
theorem c_X2_mostFours {l : Launch} {g : evG} {zg : Nat → Nat} {r : Int32} {og : Gp}  {Tg : Gp} {x1 : Int32} (hf : fX2_mostFours Tg x1 = some (r, og)) : CTi l g yX2_mostFours (Cond.code yX2_mostFours cX2_mostFours 2 (some .int)) 5 118 [.ref (zg 0), .int x1] (gcG g zg Tg) (gcG g zg og) r := by
  refine ct_i rfl (Nat.le_of_ble_eq_true rfl) ?_
  intro p e s m args below meth c A ls C hw hl
  have C : ctx g p s m args meth c RX2 cX2_mostFours 2 (some .int) A := C
  have hl : lv_has ls 2 [(0, .ref (zg 0)), (1, .int x1)] := hl
  obtain ⟨hx, hb, hml, hown, hts, -⟩ := id C
  unfold fX2_mostFours at hf
  refine lv_aload_n hx hb dX2_mostFours_0 rfl (lv_at hl 0 rfl) ?_
  refine lv_iload_n hx hb dX2_mostFours_1 rfl (lv_at hl 1 rfl) ?_
  obtain ⟨r1, Tg_2, hc3, hf⟩ := bd2_e hf
  refine r_callViF C hw (c_X2_greatestOf (zg := zg) hc3) md_X2_greatestOf [0, 1, 2] rfl rfl rfl rfl q4_79 0 rfl cf_X2.1 ⟨Nat.le_of_ble_eq_true rfl, Nat.le_of_ble_eq_true rfl⟩ ⟨Nat.zero_le _, Nat.zero_le _⟩ hl.1 rfl rfl (Nat.le_of_ble_eq_true rfl) dX2_mostFours_2 (fun H locs hw => ?_)
  refine lv_iconst (v := (4 : Int32)) hx hb dX2_mostFours_5 rfl ?_
  refine lv_irm hx hb dX2_mostFours_6 (by decide) ?_
  obtain ⟨rfl, rfl⟩ := so2 hf
  exact r_iret C hw rfl dX2_mostFours_7
