set_option maxRecDepth 100000 in
set_option maxHeartbeats 4000000 in
theorem c_X4_changeHarm {l : Launch} {g : evG} {zh : Nat → Nat} {r : Int32} {oh : Gp}  {Th : Gp} {x1 : Int32} {x2 : Int32} {x3 : Int32} (hf : fX4_changeHarm Th x1 x2 x3 = some (r, oh)) : CTi l g yX4_changeHarm (Cond.code yX4_changeHarm cX4_changeHarm 6 (some .int)) 1 22 [.ref (zh 0), .int x1, .int x2, .int x3] (gcH g zh Th) (gcH g zh oh) r := by
  refine ct_i rfl (Nat.le_of_ble_eq_true rfl) ?_
  intro p e s m args below meth c A ls C hw hl
  have C : ctx g p s m args meth c RX4 cX4_changeHarm 6 (some .int) A := C
  have hl : lv_has ls 6 [(0, .ref (zh 0)), (1, .int x1), (2, .int x2), (3, .int x3)] := hl
  obtain ⟨hx, hb, hml, hown, hts, -⟩ := id C
  unfold fX4_changeHarm at hf
  refine lv_iload_n hx hb dX4_changeHarm_0 rfl (lv_at hl 1 rfl) ?_
  refine lv_bipush (v := (6 : Int32)) hx hb dX4_changeHarm_1 rfl ?_
  refine lv_imul hx hb dX4_changeHarm_3 ?_
  refine lv_iload_n hx hb dX4_changeHarm_4 rfl (lv_at hl 2 rfl) ?_
  refine lv_iadd hx hb dX4_changeHarm_5 ?_
  refine lv_istore (lv' := [(4, .int ((x1 * (6 : Int32)) + x2)), (0, .ref (zh 0)), (1, .int x1), (2, .int x2), (3, .int x3)]) hx hb dX4_changeHarm_6 hl (by decide) rfl (fun ls hl => ?_)
  refine lv_iload hx hb dX4_changeHarm_8 (lv_at hl 0 rfl) ?_
  refine lv_iconst (v := (0 : Int32)) hx hb dX4_changeHarm_10 rfl ?_
  refine lv_aload_n hx hb dX4_changeHarm_11 rfl (lv_at hl 1 rfl) ?_
  refine r_get C hw 0 rfl cf_X4 0 (by decide) q1_213 (v := .ref (zh 1)) rfl dX4_changeHarm_12 ?_
  refine r_alen C hw 1 0 rfl rfl (v := (36 : Int32)) rfl dX4_changeHarm_15 ?_
  refine lv_iconst (v := (1 : Int32)) hx hb dX4_changeHarm_16 rfl ?_
  refine lv_isub hx hb dX4_changeHarm_17 ?_
  obtain ⟨r1, hc2, hf⟩ := bd1_e hf
  refine r_callNi0 C hw (c_X10_within hc2) md_X10_within [] rfl rfl nq_37 ⟨Nat.le_of_ble_eq_true rfl, Nat.le_of_ble_eq_true rfl⟩ ⟨Nat.zero_le _, Nat.zero_le _⟩ hl.1 rfl rfl (Nat.le_of_ble_eq_true rfl) dX4_changeHarm_18 (fun H locs hw => ?_)
  refine lv_if_ne (tgt := 26) hx hb dX4_changeHarm_21 (by decide) (fun hc5 => ?_) (fun hc5 => ?_)
  · have hf := it_n hf hc5
    refine lv_aload_n hx hb dX4_changeHarm_26 rfl (lv_at hl 1 rfl) ?_
    refine r_get C hw 0 rfl cf_X4 0 (by decide) q1_213 (v := .ref (zh 1)) rfl dX4_changeHarm_27 ?_
    refine lv_iload hx hb dX4_changeHarm_30 (lv_at hl 0 rfl) ?_
    obtain ⟨hi3, hf⟩ := it_g hf
    refine r_iald C hw 1 (f := (Th 1)) rfl hi3 dX4_changeHarm_32 ?_
    refine lv_istore (lv' := [(5, .int (Th 1 ((x1 * (6 : Int32)) + x2).toNatClampNeg)), (4, .int ((x1 * (6 : Int32)) + x2)), (0, .ref (zh 0)), (1, .int x1), (2, .int x2), (3, .int x3)]) hx hb dX4_changeHarm_33 hl (by decide) rfl (fun ls hl => ?_)
    refine lv_aload_n hx hb dX4_changeHarm_35 rfl (lv_at hl 2 rfl) ?_
    refine r_get C hw 0 rfl cf_X4 0 (by decide) q1_213 (v := .ref (zh 1)) rfl dX4_changeHarm_36 ?_
    refine lv_iload hx hb dX4_changeHarm_39 (lv_at hl 1 rfl) ?_
    refine lv_iload_n hx hb dX4_changeHarm_41 rfl (lv_at hl 5 rfl) ?_
    obtain ⟨hi4, hf⟩ := it_g hf
    refine r_iast C hw 1 (f := (Th 1)) rfl hi4 (ws' := (gcH g zh (u2 Th 1 ((x1 * (6 : Int32)) + x2).toNatClampNeg x3))) gcH_a1 dX4_changeHarm_42 (fun H locs hw => ?_)
    refine lv_iload hx hb dX4_changeHarm_43 (lv_at hl 0 rfl) ?_
    obtain ⟨rfl, rfl⟩ := so2 hf
    exact r_iret C hw rfl dX4_changeHarm_45
  · have hf := it_p hf hc5
    refine lv_iconst (v := (0 : Int32)) hx hb dX4_changeHarm_24 rfl ?_
    obtain ⟨rfl, rfl⟩ := so2 hf
    exact r_iret C hw rfl dX4_changeHarm_25
set_option maxRecDepth 100000 in
set_option maxHeartbeats 4000000 in
theorem c_X4_leastWith {l : Launch} {g : evG} {zh : Nat → Nat} {r : Int32}  {Th : Gp} {x1 : Int32} {x2 : Int32} {x3 : Int32} (hf : fX4_leastWith Th x1 x2 x3 = some (r)) : CTi l g yX4_leastWith (Cond.code yX4_leastWith cX4_leastWith 6 (some .int)) 1 22 [.ref (zh 0), .int x1, .int x2, .int x3] (gcH g zh Th) (gcH g zh Th) r := by
  refine ct_i rfl (Nat.le_of_ble_eq_true rfl) ?_
  intro p e s m args below meth c A ls C hw hl
  have C : ctx g p s m args meth c RX4 cX4_leastWith 6 (some .int) A := C
  have hl : lv_has ls 6 [(0, .ref (zh 0)), (1, .int x1), (2, .int x2), (3, .int x3)] := hl
  obtain ⟨hx, hb, hml, hown, hts, -⟩ := id C
  unfold fX4_leastWith at hf
  refine lv_iload_n hx hb dX4_leastWith_0 rfl (lv_at hl 2 rfl) ?_
  refine lv_bipush (v := (6 : Int32)) hx hb dX4_leastWith_1 rfl ?_
  refine lv_imul hx hb dX4_leastWith_3 ?_
  refine lv_iload_n hx hb dX4_leastWith_4 rfl (lv_at hl 3 rfl) ?_
  refine lv_iadd hx hb dX4_leastWith_5 ?_
  refine lv_istore (lv' := [(4, .int ((x2 * (6 : Int32)) + x3)), (0, .ref (zh 0)), (1, .int x1), (2, .int x2), (3, .int x3)]) hx hb dX4_leastWith_6 hl (by decide) rfl (fun ls hl => ?_)
  refine lv_iload_n hx hb dX4_leastWith_8 rfl (lv_at hl 2 rfl) ?_
  refine lv_iconst (v := (1 : Int32)) hx hb dX4_leastWith_9 rfl ?_
  refine lv_iload_n hx hb dX4_leastWith_10 rfl (lv_at hl 4 rfl) ?_
  refine lv_ishl hx hb dX4_leastWith_11 ?_
  refine lv_ior hx hb dX4_leastWith_12 ?_
  refine lv_istore (lv' := [(5, .int (x1 ||| ((1 : Int32) <<< (x3 &&& 31)))), (4, .int ((x2 * (6 : Int32)) + x3)), (0, .ref (zh 0)), (1, .int x1), (2, .int x2), (3, .int x3)]) hx hb dX4_leastWith_13 hl (by decide) rfl (fun ls hl => ?_)
  refine lv_iload hx hb dX4_leastWith_15 (lv_at hl 0 rfl) ?_
  refine lv_iload_n hx hb dX4_leastWith_17 rfl (lv_at hl 3 rfl) ?_
  refine lv_icmp_eq (tgt := 32) hx hb dX4_leastWith_18 (by decide) (fun hc9 => ?_) (fun hc9 => ?_)
  · have hf := it_p hf hc9
    refine lv_ldc (v := (1000000 : Int32)) hx hb hown (hts _ q4_39) dX4_leastWith_32 ?_
    obtain rfl := so1 hf
    exact r_iret C hw rfl dX4_leastWith_34
  · have hf := it_n hf hc9
    refine lv_iload hx hb dX4_leastWith_21 (lv_at hl 0 rfl) ?_
    refine lv_iconst (v := (0 : Int32)) hx hb dX4_leastWith_23 rfl ?_
    refine lv_bipush (v := (63 : Int32)) hx hb dX4_leastWith_24 rfl ?_
    obtain ⟨r1, hc2, hf⟩ := bd1_e hf
    refine r_callNi0 C hw (c_X10_within hc2) md_X10_within [] rfl rfl nq_37 ⟨Nat.le_of_ble_eq_true rfl, Nat.le_of_ble_eq_true rfl⟩ ⟨Nat.zero_le _, Nat.zero_le _⟩ hl.1 rfl rfl (Nat.le_of_ble_eq_true rfl) dX4_leastWith_26 (fun H locs hw => ?_)
    refine lv_if_ne (tgt := 35) hx hb dX4_leastWith_29 (by decide) (fun hc8 => ?_) (fun hc8 => ?_)
    · have hf := it_n hf hc8
      refine lv_iload hx hb dX4_leastWith_35 (lv_at hl 1 rfl) ?_
      refine lv_iconst (v := (0 : Int32)) hx hb dX4_leastWith_37 rfl ?_
      refine lv_aload_n hx hb dX4_leastWith_38 rfl (lv_at hl 2 rfl) ?_
      refine r_get C hw 0 rfl cf_X4 0 (by decide) q1_213 (v := .ref (zh 1)) rfl dX4_leastWith_39 ?_
      refine r_alen C hw 1 0 rfl rfl (v := (36 : Int32)) rfl dX4_leastWith_42 ?_
      refine lv_iconst (v := (1 : Int32)) hx hb dX4_leastWith_43 rfl ?_
      refine lv_isub hx hb dX4_leastWith_44 ?_
      obtain ⟨r3, hc4, hf⟩ := bd1_e hf
      refine r_callNi0 C hw (c_X10_within hc4) md_X10_within [] rfl rfl nq_37 ⟨Nat.le_of_ble_eq_true rfl, Nat.le_of_ble_eq_true rfl⟩ ⟨Nat.zero_le _, Nat.zero_le _⟩ hl.1 rfl rfl (Nat.le_of_ble_eq_true rfl) dX4_leastWith_45 (fun H locs hw => ?_)
      refine lv_if_ne (tgt := 54) hx hb dX4_leastWith_48 (by decide) (fun hc7 => ?_) (fun hc7 => ?_)
      · have hf := it_n hf hc7
        refine lv_aload_n hx hb dX4_leastWith_54 rfl (lv_at hl 2 rfl) ?_
        refine r_get C hw 0 rfl cf_X4 0 (by decide) q1_213 (v := .ref (zh 1)) rfl dX4_leastWith_55 ?_
        refine lv_iload hx hb dX4_leastWith_58 (lv_at hl 1 rfl) ?_
        obtain ⟨hi5, hf⟩ := it_g hf
        refine r_iald C hw 1 (f := (Th 1)) rfl hi5 dX4_leastWith_60 ?_
        refine lv_aload_n hx hb dX4_leastWith_61 rfl (lv_at hl 2 rfl) ?_
        refine r_get C hw 0 rfl cf_X4 1 (by decide) q1_214 (v := .ref (zh 2)) rfl dX4_leastWith_62 ?_
        refine lv_iload hx hb dX4_leastWith_65 (lv_at hl 0 rfl) ?_
        obtain ⟨hi6, hf⟩ := it_g hf
        refine r_iald C hw 2 (f := (Th 2)) rfl hi6 dX4_leastWith_67 ?_
        refine lv_iadd hx hb dX4_leastWith_68 ?_
        refine lv_ldc (v := (1000000 : Int32)) hx hb hown (hts _ q4_39) dX4_leastWith_69 ?_
        refine r_mmin C hl.1 q4_32 q4_13 q1_18 q4_14 (Nat.le_of_ble_eq_true rfl) (Nat.le_of_ble_eq_true rfl) (Nat.zero_le _) (Nat.zero_le _) dX4_leastWith_71 ?_
        obtain rfl := so1 hf
        exact r_iret C hw rfl dX4_leastWith_74
      · have hf := it_p hf hc7
        refine lv_ldc (v := (1000000 : Int32)) hx hb hown (hts _ q4_39) dX4_leastWith_51 ?_
        obtain rfl := so1 hf
        exact r_iret C hw rfl dX4_leastWith_53
    · have hf := it_p hf hc8
      refine lv_ldc (v := (1000000 : Int32)) hx hb hown (hts _ q4_39) dX4_leastWith_32 ?_
      obtain rfl := so1 hf
      exact r_iret C hw rfl dX4_leastWith_34
set_option maxRecDepth 100000 in
set_option maxHeartbeats 4000000 in
theorem kX4_leastHarm_76 {l : Launch} {g : evG} {p : Program} {e : Env} {s : State} {m : MethodId} {args : Array Value} {below : List Frame} {meth : Method} {c : Code} {A : Nat → Prop} {zh : Nat → Nat} {r : Int32} {oh : Gp} (C : ctx g p s m args meth c RX4 cX4_leastHarm 11 (some .int) A) {rec16 : Gp → Int32 → Int32 → Int32 → Int32 → Int32 → Option (Int32 × Gp)} {rec46 : Gp → Int32 → Int32 → Int32 → Int32 → Int32 → Int32 → Int32 → Int32 → Option (Int32 × Gp)} (hr16 : ∀ (Th : Gp) (x1 : Int32) (x2 : Int32) (x3 : Int32) (x4 : Int32) (x5 : Int32) (H : Heap) (locs : List Loc) (ls : Array Slot), rec16 Th x1 x2 x3 x4 x5 = some (r, oh) → wl g A s.heap (gcH g zh Th) H locs → lv_has ls 11 [(0, .ref (zh 0)), (1, .int x1), (2, .int x2), (3, .int x3), (4, .int x4), (5, .int x5)] → W p l e (rmK 2 47) s m args below meth c H locs 0 0 (MQ below (Qi g A (gcH g zh oh) r) args s 0 0 A) (F0 m 16 ls [])) (hr46 : ∀ (Th : Gp) (x1 : Int32) (x2 : Int32) (x3 : Int32) (x4 : Int32) (x5 : Int32) (x6 : Int32) (x7 : Int32) (x8 : Int32) (H : Heap) (locs : List Loc) (ls : Array Slot), rec46 Th x1 x2 x3 x4 x5 x6 x7 x8 = some (r, oh) → wl g A s.heap (gcH g zh Th) H locs → lv_has ls 11 [(0, .ref (zh 0)), (1, .int x1), (2, .int x2), (3, .int x3), (4, .int x4), (5, .int x5), (6, .int x6), (7, .int x7), (8, .int x8)] → W p l e (rmK 2 47) s m args below meth c H locs 0 0 (MQ below (Qi g A (gcH g zh oh) r) args s 0 0 A) (F0 m 46 ls [])) {Th : Gp} {x1 : Int32} {x2 : Int32} {x3 : Int32} {x4 : Int32} {x5 : Int32} {x6 : Int32} {x7 : Int32} {x8 : Int32} {x9 : Int32} {y0 : Int32} {H : Heap} {locs : List Loc} {ls : Array Slot} (hf : fX4_leastHarm_76 rec16 rec46 Th x1 x2 x3 x4 x5 x6 x7 x8 x9 y0 = some (r, oh)) (hw : wl g A s.heap (gcH g zh Th) H locs) (hl : lv_has ls 11 [(0, .ref (zh 0)), (1, .int x1), (2, .int x2), (3, .int x3), (4, .int x4), (5, .int x5), (6, .int x6), (7, .int x7), (8, .int x8), (9, .int x9)]) : W p l e (rmK 2 47) s m args below meth c H locs 0 0 (MQ below (Qi g A (gcH g zh oh) r) args s 0 0 A) (F0 m 76 ls [.int y0]) := by
  obtain ⟨hx, hb, hml, hown, hts, -⟩ := id C
  unfold fX4_leastHarm_76 at hf
  refine lv_istore (lv' := [(10, .int y0), (0, .ref (zh 0)), (1, .int x1), (2, .int x2), (3, .int x3), (4, .int x4), (5, .int x5), (6, .int x6), (7, .int x7), (8, .int x8), (9, .int x9)]) hx hb dX4_leastHarm_76 hl (by decide) rfl (fun ls hl => ?_)
  refine lv_iload hx hb dX4_leastHarm_78 (lv_at hl 10 rfl) ?_
  refine lv_iload hx hb dX4_leastHarm_80 (lv_at hl 0 rfl) ?_
  refine lv_icmp_ne (tgt := 102) hx hb dX4_leastHarm_82 (by decide) (fun hc3 => ?_) (fun hc3 => ?_)
  · have hf := it_n hf hc3
    refine lv_iinc (v := (x8 + (1 : Int32))) (lv' := [(8, .int (x8 + (1 : Int32))), (10, .int y0), (0, .ref (zh 0)), (1, .int x1), (2, .int x2), (3, .int x3), (4, .int x4), (5, .int x5), (6, .int x6), (7, .int x7), (9, .int x9)]) hx hb dX4_leastHarm_102 hl (k := 9) rfl rfl (by decide) rfl (fun ls hl => ?_)
    refine lv_goto (tgt := 46) hx hb dX4_leastHarm_105 (by decide) ?_
    exact hr46 _ _ _ _ _ _ _ _ _ _ _ _ hf hw (lv_sub hl [2, 3, 4, 5, 6, 7, 8, 9, 0] rfl)
  · have hf := it_p hf hc3
    refine lv_iload hx hb dX4_leastHarm_85 (lv_at hl 8 rfl) ?_
    refine lv_aload_n hx hb dX4_leastHarm_87 rfl (lv_at hl 1 rfl) ?_
    refine lv_iload hx hb dX4_leastHarm_88 (lv_at hl 6 rfl) ?_
    refine lv_iload hx hb dX4_leastHarm_90 (lv_at hl 7 rfl) ?_
    refine lv_iload hx hb dX4_leastHarm_92 (lv_at hl 9 rfl) ?_
    obtain ⟨r1, hc2, hf⟩ := bd1_e hf
    refine r_callVi0 C hw (c_X4_leastWith (zh := zh) hc2) md_X4_leastWith [0, 1, 2] rfl rfl q4_40 0 rfl cf_X4.1 ⟨Nat.le_of_ble_eq_true rfl, Nat.le_of_ble_eq_true rfl⟩ ⟨Nat.zero_le _, Nat.zero_le _⟩ hl.1 rfl rfl (Nat.le_of_ble_eq_true rfl) dX4_leastHarm_94 (fun H locs hw => ?_)
    refine r_mmin C hl.1 q4_32 q4_13 q1_18 q4_14 (Nat.le_of_ble_eq_true rfl) (Nat.le_of_ble_eq_true rfl) (Nat.zero_le _) (Nat.zero_le _) dX4_leastHarm_97 ?_
    refine lv_istore (lv' := [(7, .int (imn x7 r1)), (10, .int y0), (0, .ref (zh 0)), (1, .int x1), (2, .int x2), (3, .int x3), (4, .int x4), (5, .int x5), (6, .int x6), (8, .int x8), (9, .int x9)]) hx hb dX4_leastHarm_100 hl (by decide) rfl (fun ls hl => ?_)
    refine lv_iinc (v := (x8 + (1 : Int32))) (lv' := [(8, .int (x8 + (1 : Int32))), (7, .int (imn x7 r1)), (10, .int y0), (0, .ref (zh 0)), (1, .int x1), (2, .int x2), (3, .int x3), (4, .int x4), (5, .int x5), (6, .int x6), (9, .int x9)]) hx hb dX4_leastHarm_102 hl (k := 9) rfl rfl (by decide) rfl (fun ls hl => ?_)
    refine lv_goto (tgt := 46) hx hb dX4_leastHarm_105 (by decide) ?_
    exact hr46 _ _ _ _ _ _ _ _ _ _ _ _ hf hw (lv_sub hl [3, 4, 5, 6, 7, 8, 9, 1, 0] rfl)
set_option maxRecDepth 100000 in
set_option maxHeartbeats 4000000 in
theorem kX4_leastHarm_63 {l : Launch} {g : evG} {p : Program} {e : Env} {s : State} {m : MethodId} {args : Array Value} {below : List Frame} {meth : Method} {c : Code} {A : Nat → Prop} {zh : Nat → Nat} {r : Int32} {oh : Gp} (C : ctx g p s m args meth c RX4 cX4_leastHarm 11 (some .int) A) {rec16 : Gp → Int32 → Int32 → Int32 → Int32 → Int32 → Option (Int32 × Gp)} {rec46 : Gp → Int32 → Int32 → Int32 → Int32 → Int32 → Int32 → Int32 → Int32 → Option (Int32 × Gp)} (hr16 : ∀ (Th : Gp) (x1 : Int32) (x2 : Int32) (x3 : Int32) (x4 : Int32) (x5 : Int32) (H : Heap) (locs : List Loc) (ls : Array Slot), rec16 Th x1 x2 x3 x4 x5 = some (r, oh) → wl g A s.heap (gcH g zh Th) H locs → lv_has ls 11 [(0, .ref (zh 0)), (1, .int x1), (2, .int x2), (3, .int x3), (4, .int x4), (5, .int x5)] → W p l e (rmK 2 47) s m args below meth c H locs 0 0 (MQ below (Qi g A (gcH g zh oh) r) args s 0 0 A) (F0 m 16 ls [])) (hr46 : ∀ (Th : Gp) (x1 : Int32) (x2 : Int32) (x3 : Int32) (x4 : Int32) (x5 : Int32) (x6 : Int32) (x7 : Int32) (x8 : Int32) (H : Heap) (locs : List Loc) (ls : Array Slot), rec46 Th x1 x2 x3 x4 x5 x6 x7 x8 = some (r, oh) → wl g A s.heap (gcH g zh Th) H locs → lv_has ls 11 [(0, .ref (zh 0)), (1, .int x1), (2, .int x2), (3, .int x3), (4, .int x4), (5, .int x5), (6, .int x6), (7, .int x7), (8, .int x8)] → W p l e (rmK 2 47) s m args below meth c H locs 0 0 (MQ below (Qi g A (gcH g zh oh) r) args s 0 0 A) (F0 m 46 ls [])) {Th : Gp} {x1 : Int32} {x2 : Int32} {x3 : Int32} {x4 : Int32} {x5 : Int32} {x6 : Int32} {x7 : Int32} {x8 : Int32} {y0 : Int32} {H : Heap} {locs : List Loc} {ls : Array Slot} (hf : fX4_leastHarm_63 rec16 rec46 Th x1 x2 x3 x4 x5 x6 x7 x8 y0 = some (r, oh)) (hw : wl g A s.heap (gcH g zh Th) H locs) (hl : lv_has ls 11 [(0, .ref (zh 0)), (1, .int x1), (2, .int x2), (3, .int x3), (4, .int x4), (5, .int x5), (6, .int x6), (7, .int x7), (8, .int x8)]) : W p l e (rmK 2 47) s m args below meth c H locs 0 0 (MQ below (Qi g A (gcH g zh oh) r) args s 0 0 A) (F0 m 63 ls [.int y0]) := by
  obtain ⟨hx, hb, hml, hown, hts, -⟩ := id C
  unfold fX4_leastHarm_63 at hf
  refine lv_istore (lv' := [(9, .int y0), (0, .ref (zh 0)), (1, .int x1), (2, .int x2), (3, .int x3), (4, .int x4), (5, .int x5), (6, .int x6), (7, .int x7), (8, .int x8)]) hx hb dX4_leastHarm_63 hl (by decide) rfl (fun ls hl => ?_)
  refine lv_iload hx hb dX4_leastHarm_65 (lv_at hl 9 rfl) ?_
  refine lv_iload_n hx hb dX4_leastHarm_67 rfl (lv_at hl 4 rfl) ?_
  refine lv_icmp_ne (tgt := 75) hx hb dX4_leastHarm_68 (by decide) (fun hc1 => ?_) (fun hc1 => ?_)
  · have hf := it_n hf hc1
    refine lv_iconst (v := (0 : Int32)) hx hb dX4_leastHarm_75 rfl ?_
    exact kX4_leastHarm_76 (zh := zh) (r := r) (oh := oh) C hr16 hr46 hf hw (lv_sub hl [1, 2, 3, 4, 5, 6, 7, 8, 9, 0] rfl)
  · have hf := it_p hf hc1
    refine lv_iconst (v := (1 : Int32)) hx hb dX4_leastHarm_71 rfl ?_
    refine lv_goto (tgt := 76) hx hb dX4_leastHarm_72 (by decide) ?_
    exact kX4_leastHarm_76 (zh := zh) (r := r) (oh := oh) C hr16 hr46 hf hw (lv_sub hl [1, 2, 3, 4, 5, 6, 7, 8, 9, 0] rfl)
set_option maxRecDepth 100000 in
set_option maxHeartbeats 4000000 in
theorem kX4_leastHarm_46 {l : Launch} {g : evG} {p : Program} {e : Env} {s : State} {m : MethodId} {args : Array Value} {below : List Frame} {meth : Method} {c : Code} {A : Nat → Prop} {zh : Nat → Nat} {r : Int32} {oh : Gp} (C : ctx g p s m args meth c RX4 cX4_leastHarm 11 (some .int) A) {rec16 : Gp → Int32 → Int32 → Int32 → Int32 → Int32 → Option (Int32 × Gp)} {rec46 : Gp → Int32 → Int32 → Int32 → Int32 → Int32 → Int32 → Int32 → Int32 → Option (Int32 × Gp)} (hr16 : ∀ (Th : Gp) (x1 : Int32) (x2 : Int32) (x3 : Int32) (x4 : Int32) (x5 : Int32) (H : Heap) (locs : List Loc) (ls : Array Slot), rec16 Th x1 x2 x3 x4 x5 = some (r, oh) → wl g A s.heap (gcH g zh Th) H locs → lv_has ls 11 [(0, .ref (zh 0)), (1, .int x1), (2, .int x2), (3, .int x3), (4, .int x4), (5, .int x5)] → W p l e (rmK 2 47) s m args below meth c H locs 0 0 (MQ below (Qi g A (gcH g zh oh) r) args s 0 0 A) (F0 m 16 ls [])) (hr46 : ∀ (Th : Gp) (x1 : Int32) (x2 : Int32) (x3 : Int32) (x4 : Int32) (x5 : Int32) (x6 : Int32) (x7 : Int32) (x8 : Int32) (H : Heap) (locs : List Loc) (ls : Array Slot), rec46 Th x1 x2 x3 x4 x5 x6 x7 x8 = some (r, oh) → wl g A s.heap (gcH g zh Th) H locs → lv_has ls 11 [(0, .ref (zh 0)), (1, .int x1), (2, .int x2), (3, .int x3), (4, .int x4), (5, .int x5), (6, .int x6), (7, .int x7), (8, .int x8)] → W p l e (rmK 2 47) s m args below meth c H locs 0 0 (MQ below (Qi g A (gcH g zh oh) r) args s 0 0 A) (F0 m 46 ls [])) {Th : Gp} {x1 : Int32} {x2 : Int32} {x3 : Int32} {x4 : Int32} {x5 : Int32} {x6 : Int32} {x7 : Int32} {x8 : Int32} {H : Heap} {locs : List Loc} {ls : Array Slot} (hf : fX4_leastHarm_46 rec16 rec46 Th x1 x2 x3 x4 x5 x6 x7 x8 = some (r, oh)) (hw : wl g A s.heap (gcH g zh Th) H locs) (hl : lv_has ls 11 [(0, .ref (zh 0)), (1, .int x1), (2, .int x2), (3, .int x3), (4, .int x4), (5, .int x5), (6, .int x6), (7, .int x7), (8, .int x8)]) : W p l e (rmK 2 47) s m args below meth c H locs 0 0 (MQ below (Qi g A (gcH g zh oh) r) args s 0 0 A) (F0 m 46 ls []) := by
  obtain ⟨hx, hb, hml, hown, hts, -⟩ := id C
  unfold fX4_leastHarm_46 at hf
  refine lv_iload hx hb dX4_leastHarm_46 (lv_at hl 8 rfl) ?_
  refine lv_iload_n hx hb dX4_leastHarm_48 rfl (lv_at hl 1 rfl) ?_
  refine lv_icmp_ge (tgt := 108) hx hb dX4_leastHarm_49 (by decide) (fun hc3 => ?_) (fun hc3 => ?_)
  · have hf := it_p hf hc3
    refine lv_aload_n hx hb dX4_leastHarm_108 rfl (lv_at hl 0 rfl) ?_
    refine r_get C hw 0 rfl cf_X4 1 (by decide) q1_214 (v := .ref (zh 2)) rfl dX4_leastHarm_109 ?_
    refine lv_iload hx hb dX4_leastHarm_112 (lv_at hl 5 rfl) ?_
    refine lv_iload hx hb dX4_leastHarm_114 (lv_at hl 7 rfl) ?_
    obtain ⟨hi1, hf⟩ := it_g hf
    refine r_iast C hw 2 (f := (Th 2)) rfl hi1 (ws' := (gcH g zh (u2 Th 2 x5.toNatClampNeg x7))) gcH_a2 dX4_leastHarm_116 (fun H locs hw => ?_)
    refine lv_iinc (v := (x5 + (-1 : Int32))) (lv' := [(5, .int (x5 + (-1 : Int32))), (0, .ref (zh 0)), (1, .int x1), (2, .int x2), (3, .int x3), (4, .int x4), (6, .int x6), (7, .int x7), (8, .int x8)]) hx hb dX4_leastHarm_117 hl (k := 5) rfl rfl (by decide) rfl (fun ls hl => ?_)
    refine lv_goto (tgt := 16) hx hb dX4_leastHarm_120 (by decide) ?_
    exact hr16 _ _ _ _ _ _ _ _ _ hf hw (lv_sub hl [1, 2, 3, 4, 5, 0] rfl)
  · have hf := it_n hf hc3
    refine lv_iload hx hb dX4_leastHarm_52 (lv_at hl 6 rfl) ?_
    refine lv_iload_n hx hb dX4_leastHarm_54 rfl (lv_at hl 2 rfl) ?_
    refine lv_icmp_ne (tgt := 62) hx hb dX4_leastHarm_55 (by decide) (fun hc2 => ?_) (fun hc2 => ?_)
    · have hf := it_n hf hc2
      refine lv_iconst (v := (0 : Int32)) hx hb dX4_leastHarm_62 rfl ?_
      exact kX4_leastHarm_63 (zh := zh) (r := r) (oh := oh) C hr16 hr46 hf hw (lv_sub hl [0, 1, 2, 3, 4, 5, 6, 7, 8] rfl)
    · have hf := it_p hf hc2
      refine lv_iconst (v := (1 : Int32)) hx hb dX4_leastHarm_58 rfl ?_
      refine lv_goto (tgt := 63) hx hb dX4_leastHarm_59 (by decide) ?_
      exact kX4_leastHarm_63 (zh := zh) (r := r) (oh := oh) C hr16 hr46 hf hw (lv_sub hl [0, 1, 2, 3, 4, 5, 6, 7, 8] rfl)
set_option maxRecDepth 100000 in
set_option maxHeartbeats 4000000 in
theorem klX4_leastHarm_46 {l : Launch} {g : evG} {p : Program} {e : Env} {s : State} {m : MethodId} {args : Array Value} {below : List Frame} {meth : Method} {c : Code} {A : Nat → Prop} {zh : Nat → Nat} {r : Int32} {oh : Gp} (C : ctx g p s m args meth c RX4 cX4_leastHarm 11 (some .int) A) {rec16 : Gp → Int32 → Int32 → Int32 → Int32 → Int32 → Option (Int32 × Gp)} (hr16 : ∀ (Th : Gp) (x1 : Int32) (x2 : Int32) (x3 : Int32) (x4 : Int32) (x5 : Int32) (H : Heap) (locs : List Loc) (ls : Array Slot), rec16 Th x1 x2 x3 x4 x5 = some (r, oh) → wl g A s.heap (gcH g zh Th) H locs → lv_has ls 11 [(0, .ref (zh 0)), (1, .int x1), (2, .int x2), (3, .int x3), (4, .int x4), (5, .int x5)] → W p l e (rmK 2 47) s m args below meth c H locs 0 0 (MQ below (Qi g A (gcH g zh oh) r) args s 0 0 A) (F0 m 16 ls [])) : ∀ (n : Nat) (Th : Gp) (x1 : Int32) (x2 : Int32) (x3 : Int32) (x4 : Int32) (x5 : Int32) (x6 : Int32) (x7 : Int32) (x8 : Int32) (H : Heap) (locs : List Loc) (ls : Array Slot), lX4_leastHarm_46 rec16 n Th x1 x2 x3 x4 x5 x6 x7 x8 = some (r, oh) → wl g A s.heap (gcH g zh Th) H locs → lv_has ls 11 [(0, .ref (zh 0)), (1, .int x1), (2, .int x2), (3, .int x3), (4, .int x4), (5, .int x5), (6, .int x6), (7, .int x7), (8, .int x8)] → W p l e (rmK 2 47) s m args below meth c H locs 0 0 (MQ below (Qi g A (gcH g zh oh) r) args s 0 0 A) (F0 m 46 ls []) := by
  intro n
  induction n with
  | zero => intro _ _ _ _ _ _ _ _ _ _ _ _ hf; exact no_f hf
  | succ n ih => intro _ _ _ _ _ _ _ _ _ _ _ _ hf hw hl; exact kX4_leastHarm_46 (zh := zh) (r := r) (oh := oh) C hr16 (rec46 := lX4_leastHarm_46 rec16 n) ih hf hw hl
set_option maxRecDepth 100000 in
set_option maxHeartbeats 4000000 in
theorem kX4_leastHarm_16 {l : Launch} {g : evG} {p : Program} {e : Env} {s : State} {m : MethodId} {args : Array Value} {below : List Frame} {meth : Method} {c : Code} {A : Nat → Prop} {zh : Nat → Nat} {r : Int32} {oh : Gp} (C : ctx g p s m args meth c RX4 cX4_leastHarm 11 (some .int) A) {rec16 : Gp → Int32 → Int32 → Int32 → Int32 → Int32 → Option (Int32 × Gp)} (hr16 : ∀ (Th : Gp) (x1 : Int32) (x2 : Int32) (x3 : Int32) (x4 : Int32) (x5 : Int32) (H : Heap) (locs : List Loc) (ls : Array Slot), rec16 Th x1 x2 x3 x4 x5 = some (r, oh) → wl g A s.heap (gcH g zh Th) H locs → lv_has ls 11 [(0, .ref (zh 0)), (1, .int x1), (2, .int x2), (3, .int x3), (4, .int x4), (5, .int x5)] → W p l e (rmK 2 47) s m args below meth c H locs 0 0 (MQ below (Qi g A (gcH g zh oh) r) args s 0 0 A) (F0 m 16 ls [])) {Th : Gp} {x1 : Int32} {x2 : Int32} {x3 : Int32} {x4 : Int32} {x5 : Int32} {H : Heap} {locs : List Loc} {ls : Array Slot} (hf : fX4_leastHarm_16 rec16 Th x1 x2 x3 x4 x5 = some (r, oh)) (hw : wl g A s.heap (gcH g zh Th) H locs) (hl : lv_has ls 11 [(0, .ref (zh 0)), (1, .int x1), (2, .int x2), (3, .int x3), (4, .int x4), (5, .int x5)]) : W p l e (rmK 2 47) s m args below meth c H locs 0 0 (MQ below (Qi g A (gcH g zh oh) r) args s 0 0 A) (F0 m 16 ls []) := by
  obtain ⟨hx, hb, hml, hown, hts, -⟩ := id C
  unfold fX4_leastHarm_16 at hf
  refine lv_iload hx hb dX4_leastHarm_16 (lv_at hl 5 rfl) ?_
  refine lv_if_lt (tgt := 123) hx hb dX4_leastHarm_18 (by decide) (fun hc2 => ?_) (fun hc2 => ?_)
  · have hf := it_p hf hc2
    refine lv_aload_n hx hb dX4_leastHarm_123 rfl (lv_at hl 0 rfl) ?_
    refine r_get C hw 0 rfl cf_X4 1 (by decide) q1_214 (v := .ref (zh 2)) rfl dX4_leastHarm_124 ?_
    refine lv_iconst (v := (0 : Int32)) hx hb dX4_leastHarm_127 rfl ?_
    refine r_iald C hw 2 (f := (Th 2)) rfl (by decide) dX4_leastHarm_128 ?_
    obtain ⟨rfl, rfl⟩ := so2 hf
    exact r_iret C hw rfl dX4_leastHarm_129
  · have hf := it_n hf hc2
    refine lv_iload hx hb dX4_leastHarm_21 (lv_at hl 5 rfl) ?_
    refine r_callSi0 C hw (c_bitCount (x := x5)) md_J6_bitCount_0f7a4 [] rfl rfl q4_33 ⟨Nat.le_of_ble_eq_true rfl, Nat.le_of_ble_eq_true rfl⟩ ⟨Nat.zero_le _, Nat.zero_le _⟩ hl.1 rfl rfl (Nat.le_of_ble_eq_true rfl) dX4_leastHarm_23 (fun H locs hw => ?_)
    refine lv_istore (lv' := [(6, .int (ev_bc x5)), (0, .ref (zh 0)), (1, .int x1), (2, .int x2), (3, .int x3), (4, .int x4), (5, .int x5)]) hx hb dX4_leastHarm_26 hl (by decide) rfl (fun ls hl => ?_)
    refine lv_iload hx hb dX4_leastHarm_28 (lv_at hl 6 rfl) ?_
    refine lv_iload hx hb dX4_leastHarm_30 (lv_at hl 5 rfl) ?_
    refine lv_icmp_ne (tgt := 39) hx hb dX4_leastHarm_32 (by decide) (fun hc1 => ?_) (fun hc1 => ?_)
    · have hf := it_n hf hc1
      refine lv_ldc (v := (1000000 : Int32)) hx hb hown (hts _ q4_39) dX4_leastHarm_39 ?_
      refine lv_istore (lv' := [(7, .int (1000000 : Int32)), (6, .int (ev_bc x5)), (0, .ref (zh 0)), (1, .int x1), (2, .int x2), (3, .int x3), (4, .int x4), (5, .int x5)]) hx hb dX4_leastHarm_41 hl (by decide) rfl (fun ls hl => ?_)
      refine lv_iconst (v := (0 : Int32)) hx hb dX4_leastHarm_43 rfl ?_
      refine lv_istore (lv' := [(8, .int (0 : Int32)), (7, .int (1000000 : Int32)), (6, .int (ev_bc x5)), (0, .ref (zh 0)), (1, .int x1), (2, .int x2), (3, .int x3), (4, .int x4), (5, .int x5)]) hx hb dX4_leastHarm_44 hl (by decide) rfl (fun ls hl => ?_)
      exact klX4_leastHarm_46 (zh := zh) (r := r) (oh := oh) C hr16 fu _ _ _ _ _ _ _ _ _ _ _ _ hf hw (lv_sub hl [3, 4, 5, 6, 7, 8, 2, 1, 0] rfl)
    · have hf := it_p hf hc1
      refine lv_iconst (v := (0 : Int32)) hx hb dX4_leastHarm_35 rfl ?_
      refine lv_goto (tgt := 41) hx hb dX4_leastHarm_36 (by decide) ?_
      refine lv_istore (lv' := [(7, .int (0 : Int32)), (6, .int (ev_bc x5)), (0, .ref (zh 0)), (1, .int x1), (2, .int x2), (3, .int x3), (4, .int x4), (5, .int x5)]) hx hb dX4_leastHarm_41 hl (by decide) rfl (fun ls hl => ?_)
      refine lv_iconst (v := (0 : Int32)) hx hb dX4_leastHarm_43 rfl ?_
      refine lv_istore (lv' := [(8, .int (0 : Int32)), (7, .int (0 : Int32)), (6, .int (ev_bc x5)), (0, .ref (zh 0)), (1, .int x1), (2, .int x2), (3, .int x3), (4, .int x4), (5, .int x5)]) hx hb dX4_leastHarm_44 hl (by decide) rfl (fun ls hl => ?_)
      exact klX4_leastHarm_46 (zh := zh) (r := r) (oh := oh) C hr16 fu _ _ _ _ _ _ _ _ _ _ _ _ hf hw (lv_sub hl [3, 4, 5, 6, 7, 8, 2, 1, 0] rfl)
set_option maxRecDepth 100000 in
set_option maxHeartbeats 4000000 in
theorem klX4_leastHarm_16 {l : Launch} {g : evG} {p : Program} {e : Env} {s : State} {m : MethodId} {args : Array Value} {below : List Frame} {meth : Method} {c : Code} {A : Nat → Prop} {zh : Nat → Nat} {r : Int32} {oh : Gp} (C : ctx g p s m args meth c RX4 cX4_leastHarm 11 (some .int) A) : ∀ (n : Nat) (Th : Gp) (x1 : Int32) (x2 : Int32) (x3 : Int32) (x4 : Int32) (x5 : Int32) (H : Heap) (locs : List Loc) (ls : Array Slot), lX4_leastHarm_16 n Th x1 x2 x3 x4 x5 = some (r, oh) → wl g A s.heap (gcH g zh Th) H locs → lv_has ls 11 [(0, .ref (zh 0)), (1, .int x1), (2, .int x2), (3, .int x3), (4, .int x4), (5, .int x5)] → W p l e (rmK 2 47) s m args below meth c H locs 0 0 (MQ below (Qi g A (gcH g zh oh) r) args s 0 0 A) (F0 m 16 ls []) := by
  intro n
  induction n with
  | zero => intro _ _ _ _ _ _ _ _ _ hf; exact no_f hf
  | succ n ih => intro _ _ _ _ _ _ _ _ _ hf hw hl; exact kX4_leastHarm_16 (zh := zh) (r := r) (oh := oh) C (rec16 := lX4_leastHarm_16 n) ih hf hw hl
set_option maxRecDepth 100000 in
set_option maxHeartbeats 4000000 in
theorem c_X4_leastHarm {l : Launch} {g : evG} {zh : Nat → Nat} {r : Int32} {oh : Gp}  {Th : Gp} {x1 : Int32} {x2 : Int32} {x3 : Int32} (hf : fX4_leastHarm Th x1 x2 x3 = some (r, oh)) : CTi l g yX4_leastHarm (Cond.code yX4_leastHarm cX4_leastHarm 11 (some .int)) 2 47 [.ref (zh 0), .int x1, .int x2, .int x3] (gcH g zh Th) (gcH g zh oh) r := by
  refine ct_i rfl (Nat.le_of_ble_eq_true rfl) ?_
  intro p e s m args below meth c A ls C hw hl
  have C : ctx g p s m args meth c RX4 cX4_leastHarm 11 (some .int) A := C
  have hl : lv_has ls 11 [(0, .ref (zh 0)), (1, .int x1), (2, .int x2), (3, .int x3)] := hl
  obtain ⟨hx, hb, hml, hown, hts, -⟩ := id C
  unfold fX4_leastHarm at hf
  refine lv_iconst (v := (1 : Int32)) hx hb dX4_leastHarm_0 rfl ?_
  refine lv_iload_n hx hb dX4_leastHarm_1 rfl (lv_at hl 1 rfl) ?_
  refine lv_ishl hx hb dX4_leastHarm_2 ?_
  refine lv_iconst (v := (1 : Int32)) hx hb dX4_leastHarm_3 rfl ?_
  refine lv_isub hx hb dX4_leastHarm_4 ?_
  refine lv_istore (lv' := [(4, .int (((1 : Int32) <<< (x1 &&& 31)) - (1 : Int32))), (0, .ref (zh 0)), (1, .int x1), (2, .int x2), (3, .int x3)]) hx hb dX4_leastHarm_5 hl (by decide) rfl (fun ls hl => ?_)
  refine lv_iload hx hb dX4_leastHarm_7 (lv_at hl 0 rfl) ?_
  refine lv_bipush (v := (63 : Int32)) hx hb dX4_leastHarm_9 rfl ?_
  refine r_mmin C hl.1 q4_32 q4_13 q1_18 q4_14 (Nat.le_of_ble_eq_true rfl) (Nat.le_of_ble_eq_true rfl) (Nat.zero_le _) (Nat.zero_le _) dX4_leastHarm_11 ?_
  refine lv_istore (lv' := [(5, .int (imn (((1 : Int32) <<< (x1 &&& 31)) - (1 : Int32)) (63 : Int32))), (4, .int (((1 : Int32) <<< (x1 &&& 31)) - (1 : Int32))), (0, .ref (zh 0)), (1, .int x1), (2, .int x2), (3, .int x3)]) hx hb dX4_leastHarm_14 hl (by decide) rfl (fun ls hl => ?_)
  exact klX4_leastHarm_16 (zh := zh) (r := r) (oh := oh) C fu _ _ _ _ _ _ _ _ _ hf hw (lv_sub hl [2, 3, 4, 5, 1, 0] rfl)
set_option maxRecDepth 100000 in
set_option maxHeartbeats 4000000 in
theorem kX4_firstBest_3 {l : Launch} {g : evG} {p : Program} {e : Env} {s : State} {m : MethodId} {args : Array Value} {below : List Frame} {meth : Method} {c : Code} {A : Nat → Prop} {zh : Nat → Nat} {r : Int32} (C : ctx g p s m args meth c RX4 cX4_firstBest 6 (some .int) A) {Th : Gp} {rec3 : Int32 → Int32 → Int32 → Int32 → Option (Int32)} (hr3 : ∀ (x1 : Int32) (x2 : Int32) (x3 : Int32) (x4 : Int32) (H : Heap) (locs : List Loc) (ls : Array Slot), rec3 x1 x2 x3 x4 = some (r) → wl g A s.heap (gcH g zh Th) H locs → lv_has ls 6 [(0, .ref (zh 0)), (1, .int x1), (2, .int x2), (3, .int x3), (4, .int x4)] → W p l e (rmK 2 47) s m args below meth c H locs 0 0 (MQ below (Qi g A (gcH g zh Th) r) args s 0 0 A) (F0 m 3 ls [])) {x1 : Int32} {x2 : Int32} {x3 : Int32} {x4 : Int32} {H : Heap} {locs : List Loc} {ls : Array Slot} (hf : fX4_firstBest_3 Th rec3 x1 x2 x3 x4 = some (r)) (hw : wl g A s.heap (gcH g zh Th) H locs) (hl : lv_has ls 6 [(0, .ref (zh 0)), (1, .int x1), (2, .int x2), (3, .int x3), (4, .int x4)]) : W p l e (rmK 2 47) s m args below meth c H locs 0 0 (MQ below (Qi g A (gcH g zh Th) r) args s 0 0 A) (F0 m 3 ls []) := by
  obtain ⟨hx, hb, hml, hown, hts, -⟩ := id C
  unfold fX4_firstBest_3 at hf
  refine lv_iload hx hb dX4_firstBest_3 (lv_at hl 4 rfl) ?_
  refine lv_iload_n hx hb dX4_firstBest_5 rfl (lv_at hl 1 rfl) ?_
  refine lv_icmp_ge (tgt := 49) hx hb dX4_firstBest_6 (by decide) (fun hc8 => ?_) (fun hc8 => ?_)
  · have hf := it_p hf hc8
    refine lv_iconst (v := (0 : Int32)) hx hb dX4_firstBest_49 rfl ?_
    obtain rfl := so1 hf
    exact r_iret C hw rfl dX4_firstBest_50
  · have hf := it_n hf hc8
    refine lv_iload_n hx hb dX4_firstBest_9 rfl (lv_at hl 2 rfl) ?_
    refine lv_iconst (v := (0 : Int32)) hx hb dX4_firstBest_10 rfl ?_
    refine lv_bipush (v := (63 : Int32)) hx hb dX4_firstBest_11 rfl ?_
    obtain ⟨r1, hc2, hf⟩ := bd1_e hf
    refine r_callNi0 C hw (c_X10_within hc2) md_X10_within [] rfl rfl nq_37 ⟨Nat.le_of_ble_eq_true rfl, Nat.le_of_ble_eq_true rfl⟩ ⟨Nat.zero_le _, Nat.zero_le _⟩ hl.1 rfl rfl (Nat.le_of_ble_eq_true rfl) dX4_firstBest_13 (fun H locs hw => ?_)
    refine lv_istore (lv' := [(5, .int r1), (0, .ref (zh 0)), (1, .int x1), (2, .int x2), (3, .int x3), (4, .int x4)]) hx hb dX4_firstBest_16 hl (by decide) rfl (fun ls hl => ?_)
    refine lv_iload hx hb dX4_firstBest_18 (lv_at hl 0 rfl) ?_
    refine lv_if_eq (tgt := 43) hx hb dX4_firstBest_20 (by decide) (fun hc7 => ?_) (fun hc7 => ?_)
    · have hf := it_p hf hc7
      refine lv_iinc (v := (x4 + (1 : Int32))) (lv' := [(4, .int (x4 + (1 : Int32))), (5, .int r1), (0, .ref (zh 0)), (1, .int x1), (2, .int x2), (3, .int x3)]) hx hb dX4_firstBest_43 hl (k := 5) rfl rfl (by decide) rfl (fun ls hl => ?_)
      refine lv_goto (tgt := 3) hx hb dX4_firstBest_46 (by decide) ?_
      exact hr3 _ _ _ _ _ _ _ hf hw (lv_sub hl [2, 3, 4, 5, 0] rfl)
    · have hf := it_n hf hc7
      refine lv_aload_n hx hb dX4_firstBest_23 rfl (lv_at hl 1 rfl) ?_
      refine lv_iload_n hx hb dX4_firstBest_24 rfl (lv_at hl 3 rfl) ?_
      refine lv_iload_n hx hb dX4_firstBest_25 rfl (lv_at hl 4 rfl) ?_
      refine lv_iload hx hb dX4_firstBest_26 (lv_at hl 5 rfl) ?_
      obtain ⟨r3, hc4, hf⟩ := bd1_e hf
      refine r_callVi0 C hw (c_X4_leastWith (zh := zh) hc4) md_X4_leastWith [0, 1, 2] rfl rfl q4_40 0 rfl cf_X4.1 ⟨Nat.le_of_ble_eq_true rfl, Nat.le_of_ble_eq_true rfl⟩ ⟨Nat.zero_le _, Nat.zero_le _⟩ hl.1 rfl rfl (Nat.le_of_ble_eq_true rfl) dX4_firstBest_28 (fun H locs hw => ?_)
      refine lv_aload_n hx hb dX4_firstBest_31 rfl (lv_at hl 1 rfl) ?_
      refine r_get C hw 0 rfl cf_X4 1 (by decide) q1_214 (v := .ref (zh 2)) rfl dX4_firstBest_32 ?_
      refine lv_iload_n hx hb dX4_firstBest_35 rfl (lv_at hl 3 rfl) ?_
      obtain ⟨hi5, hf⟩ := it_g hf
      refine r_iald C hw 2 (f := (Th 2)) rfl hi5 dX4_firstBest_36 ?_
      refine lv_icmp_ne (tgt := 43) hx hb dX4_firstBest_37 (by decide) (fun hc6 => ?_) (fun hc6 => ?_)
      · have hf := it_n hf hc6
        refine lv_iinc (v := (x4 + (1 : Int32))) (lv' := [(4, .int (x4 + (1 : Int32))), (5, .int r1), (0, .ref (zh 0)), (1, .int x1), (2, .int x2), (3, .int x3)]) hx hb dX4_firstBest_43 hl (k := 5) rfl rfl (by decide) rfl (fun ls hl => ?_)
        refine lv_goto (tgt := 3) hx hb dX4_firstBest_46 (by decide) ?_
        exact hr3 _ _ _ _ _ _ _ hf hw (lv_sub hl [2, 3, 4, 5, 0] rfl)
      · have hf := it_p hf hc6
        refine lv_iload hx hb dX4_firstBest_40 (lv_at hl 5 rfl) ?_
        obtain rfl := so1 hf
        exact r_iret C hw rfl dX4_firstBest_42
set_option maxRecDepth 100000 in
set_option maxHeartbeats 4000000 in
theorem klX4_firstBest_3 {l : Launch} {g : evG} {p : Program} {e : Env} {s : State} {m : MethodId} {args : Array Value} {below : List Frame} {meth : Method} {c : Code} {A : Nat → Prop} {zh : Nat → Nat} {r : Int32} (C : ctx g p s m args meth c RX4 cX4_firstBest 6 (some .int) A) {Th : Gp} : ∀ (n : Nat) (x1 : Int32) (x2 : Int32) (x3 : Int32) (x4 : Int32) (H : Heap) (locs : List Loc) (ls : Array Slot), lX4_firstBest_3 Th n x1 x2 x3 x4 = some (r) → wl g A s.heap (gcH g zh Th) H locs → lv_has ls 6 [(0, .ref (zh 0)), (1, .int x1), (2, .int x2), (3, .int x3), (4, .int x4)] → W p l e (rmK 2 47) s m args below meth c H locs 0 0 (MQ below (Qi g A (gcH g zh Th) r) args s 0 0 A) (F0 m 3 ls []) := by
  intro n
  induction n with
  | zero => intro _ _ _ _ _ _ _ hf; exact no_f hf
  | succ n ih => intro _ _ _ _ _ _ _ hf hw hl; exact kX4_firstBest_3 (zh := zh) (r := r) C (rec3 := lX4_firstBest_3 Th n) ih hf hw hl
set_option maxRecDepth 100000 in
set_option maxHeartbeats 4000000 in
theorem c_X4_firstBest {l : Launch} {g : evG} {zh : Nat → Nat} {r : Int32}  {Th : Gp} {x1 : Int32} {x2 : Int32} {x3 : Int32} (hf : fX4_firstBest Th x1 x2 x3 = some (r)) : CTi l g yX4_firstBest (Cond.code yX4_firstBest cX4_firstBest 6 (some .int)) 2 47 [.ref (zh 0), .int x1, .int x2, .int x3] (gcH g zh Th) (gcH g zh Th) r := by
  refine ct_i rfl (Nat.le_of_ble_eq_true rfl) ?_
  intro p e s m args below meth c A ls C hw hl
  have C : ctx g p s m args meth c RX4 cX4_firstBest 6 (some .int) A := C
  have hl : lv_has ls 6 [(0, .ref (zh 0)), (1, .int x1), (2, .int x2), (3, .int x3)] := hl
  obtain ⟨hx, hb, hml, hown, hts, -⟩ := id C
  unfold fX4_firstBest at hf
  refine lv_iconst (v := (0 : Int32)) hx hb dX4_firstBest_0 rfl ?_
  refine lv_istore (lv' := [(4, .int (0 : Int32)), (0, .ref (zh 0)), (1, .int x1), (2, .int x2), (3, .int x3)]) hx hb dX4_firstBest_1 hl (by decide) rfl (fun ls hl => ?_)
  exact klX4_firstBest_3 (zh := zh) (r := r) C fu _ _ _ _ _ _ _ hf hw (lv_sub hl [1, 2, 3, 4, 0] rfl)
set_option maxRecDepth 100000 in
set_option maxHeartbeats 4000000 in
theorem kX4_partnerOf_16 {l : Launch} {g : evG} {p : Program} {e : Env} {s : State} {m : MethodId} {args : Array Value} {below : List Frame} {meth : Method} {c : Code} {A : Nat → Prop} {zh : Nat → Nat} {r : Int32} {oh : Gp} (C : ctx g p s m args meth c RX4 cX4_partnerOf 6 (some .int) A) {rec16 : Gp → Int32 → Int32 → Int32 → Int32 → Int32 → Option (Int32 × Gp)} (hr16 : ∀ (Th : Gp) (x1 : Int32) (x2 : Int32) (x3 : Int32) (x4 : Int32) (x5 : Int32) (H : Heap) (locs : List Loc) (ls : Array Slot), rec16 Th x1 x2 x3 x4 x5 = some (r, oh) → wl g A s.heap (gcH g zh Th) H locs → lv_has ls 6 [(0, .ref (zh 0)), (1, .int x1), (2, .int x2), (3, .int x3), (4, .int x4), (5, .int x5)] → W p l e (rmK 3 77) s m args below meth c H locs 0 0 (MQ below (Qi g A (gcH g zh oh) r) args s 0 0 A) (F0 m 16 ls [])) {Th : Gp} {x1 : Int32} {x2 : Int32} {x3 : Int32} {x4 : Int32} {x5 : Int32} {H : Heap} {locs : List Loc} {ls : Array Slot} (hf : fX4_partnerOf_16 rec16 Th x1 x2 x3 x4 x5 = some (r, oh)) (hw : wl g A s.heap (gcH g zh Th) H locs) (hl : lv_has ls 6 [(0, .ref (zh 0)), (1, .int x1), (2, .int x2), (3, .int x3), (4, .int x4), (5, .int x5)]) : W p l e (rmK 3 77) s m args below meth c H locs 0 0 (MQ below (Qi g A (gcH g zh oh) r) args s 0 0 A) (F0 m 16 ls []) := by
  obtain ⟨hx, hb, hml, hown, hts, -⟩ := id C
  unfold fX4_partnerOf_16 at hf
  refine lv_iload hx hb dX4_partnerOf_16 (lv_at hl 5 rfl) ?_
  refine lv_iload_n hx hb dX4_partnerOf_18 rfl (lv_at hl 2 rfl) ?_
  refine lv_icmp_gt (tgt := 45) hx hb dX4_partnerOf_19 (by decide) (fun hc3 => ?_) (fun hc3 => ?_)
  · have hf := it_p hf hc3
    refine lv_iload hx hb dX4_partnerOf_45 (lv_at hl 4 rfl) ?_
    obtain ⟨rfl, rfl⟩ := so2 hf
    exact r_iret C hw rfl dX4_partnerOf_47
  · have hf := it_n hf hc3
    refine lv_aload_n hx hb dX4_partnerOf_22 rfl (lv_at hl 0 rfl) ?_
    refine lv_iload_n hx hb dX4_partnerOf_23 rfl (lv_at hl 1 rfl) ?_
    refine lv_iload_n hx hb dX4_partnerOf_24 rfl (lv_at hl 3 rfl) ?_
    refine lv_iload hx hb dX4_partnerOf_25 (lv_at hl 5 rfl) ?_
    obtain ⟨r1, hc2, hf⟩ := bd1_e hf
    refine r_callVi0 C hw (c_X4_firstBest (zh := zh) hc2) md_X4_firstBest [0, 1, 2] rfl rfl q4_49 0 rfl cf_X4.1 ⟨Nat.le_of_ble_eq_true rfl, Nat.le_of_ble_eq_true rfl⟩ ⟨Nat.zero_le _, Nat.zero_le _⟩ hl.1 rfl rfl (Nat.le_of_ble_eq_true rfl) dX4_partnerOf_27 (fun H locs hw => ?_)
    refine lv_istore (lv' := [(4, .int r1), (0, .ref (zh 0)), (1, .int x1), (2, .int x2), (3, .int x3), (5, .int x5)]) hx hb dX4_partnerOf_30 hl (by decide) rfl (fun ls hl => ?_)
    refine lv_iload_n hx hb dX4_partnerOf_32 rfl (lv_at hl 4 rfl) ?_
    refine lv_iconst (v := (1 : Int32)) hx hb dX4_partnerOf_33 rfl ?_
    refine lv_iload hx hb dX4_partnerOf_34 (lv_at hl 0 rfl) ?_
    refine lv_ishl hx hb dX4_partnerOf_36 ?_
    refine lv_ior hx hb dX4_partnerOf_37 ?_
    refine lv_istore_n (lv' := [(3, .int (x3 ||| ((1 : Int32) <<< (r1 &&& 31)))), (4, .int r1), (0, .ref (zh 0)), (1, .int x1), (2, .int x2), (5, .int x5)]) hx hb dX4_partnerOf_38 rfl hl (by decide) rfl (fun ls hl => ?_)
    refine lv_iinc (v := (x5 + (1 : Int32))) (lv' := [(5, .int (x5 + (1 : Int32))), (3, .int (x3 ||| ((1 : Int32) <<< (r1 &&& 31)))), (4, .int r1), (0, .ref (zh 0)), (1, .int x1), (2, .int x2)]) hx hb dX4_partnerOf_39 hl (k := 5) rfl rfl (by decide) rfl (fun ls hl => ?_)
    refine lv_goto (tgt := 16) hx hb dX4_partnerOf_42 (by decide) ?_
    exact hr16 _ _ _ _ _ _ _ _ _ hf hw (lv_sub hl [3, 4, 5, 1, 2, 0] rfl)
set_option maxRecDepth 100000 in
set_option maxHeartbeats 4000000 in
theorem klX4_partnerOf_16 {l : Launch} {g : evG} {p : Program} {e : Env} {s : State} {m : MethodId} {args : Array Value} {below : List Frame} {meth : Method} {c : Code} {A : Nat → Prop} {zh : Nat → Nat} {r : Int32} {oh : Gp} (C : ctx g p s m args meth c RX4 cX4_partnerOf 6 (some .int) A) : ∀ (n : Nat) (Th : Gp) (x1 : Int32) (x2 : Int32) (x3 : Int32) (x4 : Int32) (x5 : Int32) (H : Heap) (locs : List Loc) (ls : Array Slot), lX4_partnerOf_16 n Th x1 x2 x3 x4 x5 = some (r, oh) → wl g A s.heap (gcH g zh Th) H locs → lv_has ls 6 [(0, .ref (zh 0)), (1, .int x1), (2, .int x2), (3, .int x3), (4, .int x4), (5, .int x5)] → W p l e (rmK 3 77) s m args below meth c H locs 0 0 (MQ below (Qi g A (gcH g zh oh) r) args s 0 0 A) (F0 m 16 ls []) := by
  intro n
  induction n with
  | zero => intro _ _ _ _ _ _ _ _ _ hf; exact no_f hf
  | succ n ih => intro _ _ _ _ _ _ _ _ _ hf hw hl; exact kX4_partnerOf_16 (zh := zh) (r := r) (oh := oh) C (rec16 := lX4_partnerOf_16 n) ih hf hw hl
set_option maxRecDepth 100000 in
set_option maxHeartbeats 4000000 in
theorem c_X4_partnerOf {l : Launch} {g : evG} {zh : Nat → Nat} {r : Int32} {oh : Gp}  {Th : Gp} {x1 : Int32} {x2 : Int32} (hf : fX4_partnerOf Th x1 x2 = some (r, oh)) : CTi l g yX4_partnerOf (Cond.code yX4_partnerOf cX4_partnerOf 6 (some .int)) 3 77 [.ref (zh 0), .int x1, .int x2] (gcH g zh Th) (gcH g zh oh) r := by
  refine ct_i rfl (Nat.le_of_ble_eq_true rfl) ?_
  intro p e s m args below meth c A ls C hw hl
  have C : ctx g p s m args meth c RX4 cX4_partnerOf 6 (some .int) A := C
  have hl : lv_has ls 6 [(0, .ref (zh 0)), (1, .int x1), (2, .int x2)] := hl
  obtain ⟨hx, hb, hml, hown, hts, -⟩ := id C
  unfold fX4_partnerOf at hf
  refine lv_aload_n hx hb dX4_partnerOf_0 rfl (lv_at hl 0 rfl) ?_
  refine lv_iload_n hx hb dX4_partnerOf_1 rfl (lv_at hl 1 rfl) ?_
  refine lv_iconst (v := (-1 : Int32)) hx hb dX4_partnerOf_2 rfl ?_
  refine lv_iconst (v := (-1 : Int32)) hx hb dX4_partnerOf_3 rfl ?_
  obtain ⟨r1, Th_2, hc3, hf⟩ := bd2_e hf
  refine r_callViF C hw (c_X4_leastHarm (zh := zh) hc3) md_X4_leastHarm [0, 1, 2] rfl rfl rfl rfl q4_48 0 rfl cf_X4.1 ⟨Nat.le_of_ble_eq_true rfl, Nat.le_of_ble_eq_true rfl⟩ ⟨Nat.zero_le _, Nat.zero_le _⟩ hl.1 rfl rfl (Nat.le_of_ble_eq_true rfl) dX4_partnerOf_4 (fun H locs hw => ?_)
  refine lv_pop hx hb dX4_partnerOf_7 rfl ?_
  refine lv_iconst (v := (0 : Int32)) hx hb dX4_partnerOf_8 rfl ?_
  refine lv_istore_n (lv' := [(3, .int (0 : Int32)), (0, .ref (zh 0)), (1, .int x1), (2, .int x2)]) hx hb dX4_partnerOf_9 rfl hl (by decide) rfl (fun ls hl => ?_)
  refine lv_iconst (v := (-1 : Int32)) hx hb dX4_partnerOf_10 rfl ?_
  refine lv_istore (lv' := [(4, .int (-1 : Int32)), (3, .int (0 : Int32)), (0, .ref (zh 0)), (1, .int x1), (2, .int x2)]) hx hb dX4_partnerOf_11 hl (by decide) rfl (fun ls hl => ?_)
  refine lv_iconst (v := (0 : Int32)) hx hb dX4_partnerOf_13 rfl ?_
  refine lv_istore (lv' := [(5, .int (0 : Int32)), (4, .int (-1 : Int32)), (3, .int (0 : Int32)), (0, .ref (zh 0)), (1, .int x1), (2, .int x2)]) hx hb dX4_partnerOf_14 hl (by decide) rfl (fun ls hl => ?_)
  exact klX4_partnerOf_16 (zh := zh) (r := r) (oh := oh) C fu _ _ _ _ _ _ _ _ _ hf hw (lv_sub hl [3, 4, 5, 2, 1, 0] rfl)
